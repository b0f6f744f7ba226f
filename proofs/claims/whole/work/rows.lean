section
-- ===== PART A: goes FIRST, ahead of the names: the tables' words, and 'selects' of the private methods out of them =====
/-- a private method of a class that the tables say can be made, by its rows of tables_1 -/
def lw_okq (q : MethodName × Nat) : Prop := (q.1.cls ≠ "java/lang/invoke/MethodHandle" ∧ q.1.cls ≠ "java/lang/invoke/VarHandle") ∧ Cond.instantiable q.1.cls q.2 ∈ tables_1 ∧ Cond.privateMethod q.1 ∈ tables_1 ∧ Cond.instanceMethod q.1 ∈ tables_1
theorem lw_p0 : lw_okq (⟨"GoingAbout", "error", "(I)I"⟩, 9) := ⟨⟨by decide +kernel, by decide +kernel⟩, List.mem_of_getElem? (i := 18) (by decide +kernel), List.mem_of_getElem? (i := 245) (by decide +kernel), List.mem_of_getElem? (i := 246) (by decide +kernel)⟩
theorem lw_p1 : lw_okq (⟨"GoingAbout$Suburb", "join", "(III)I"⟩, 12) := ⟨⟨by decide +kernel, by decide +kernel⟩, List.mem_of_getElem? (i := 26) (by decide +kernel), List.mem_of_getElem? (i := 250) (by decide +kernel), List.mem_of_getElem? (i := 251) (by decide +kernel)⟩
theorem lw_p2 : lw_okq (⟨"GoingAbout$Suburb", "has", "(I)Z"⟩, 12) := ⟨⟨by decide +kernel, by decide +kernel⟩, List.mem_of_getElem? (i := 26) (by decide +kernel), List.mem_of_getElem? (i := 258) (by decide +kernel), List.mem_of_getElem? (i := 259) (by decide +kernel)⟩
theorem lw_p3 : lw_okq (⟨"GoingAbout$Suburb", "takenBy", "(IIII)I"⟩, 12) := ⟨⟨by decide +kernel, by decide +kernel⟩, List.mem_of_getElem? (i := 26) (by decide +kernel), List.mem_of_getElem? (i := 287) (by decide +kernel), List.mem_of_getElem? (i := 288) (by decide +kernel)⟩
theorem lw_p4 : lw_okq (⟨"GoingAbout$Law", "gives", "(III)I"⟩, 4) := ⟨⟨by decide +kernel, by decide +kernel⟩, List.mem_of_getElem? (i := 55) (by decide +kernel), List.mem_of_getElem? (i := 294) (by decide +kernel), List.mem_of_getElem? (i := 295) (by decide +kernel)⟩
theorem lw_p5 : lw_okq (⟨"GoingAbout$Suburb", "meet", "(II)I"⟩, 12) := ⟨⟨by decide +kernel, by decide +kernel⟩, List.mem_of_getElem? (i := 26) (by decide +kernel), List.mem_of_getElem? (i := 314) (by decide +kernel), List.mem_of_getElem? (i := 315) (by decide +kernel)⟩
theorem lw_p6 : lw_okq (⟨"GoingAbout$Suburb", "record", "(JI)I"⟩, 12) := ⟨⟨by decide +kernel, by decide +kernel⟩, List.mem_of_getElem? (i := 26) (by decide +kernel), List.mem_of_getElem? (i := 323) (by decide +kernel), List.mem_of_getElem? (i := 324) (by decide +kernel)⟩
theorem lw_p7 : lw_okq (⟨"GoingAbout$Suburb", "lawOf", "(I)LGoingAbout$Law;"⟩, 12) := ⟨⟨by decide +kernel, by decide +kernel⟩, List.mem_of_getElem? (i := 26) (by decide +kernel), List.mem_of_getElem? (i := 334) (by decide +kernel), List.mem_of_getElem? (i := 335) (by decide +kernel)⟩
theorem lw_p8 : lw_okq (⟨"GoingAbout$Reading", "read", "([BIILGoingAbout$Law;)I"⟩, 6) := ⟨⟨by decide +kernel, by decide +kernel⟩, List.mem_of_getElem? (i := 127) (by decide +kernel), List.mem_of_getElem? (i := 338) (by decide +kernel), List.mem_of_getElem? (i := 339) (by decide +kernel)⟩
theorem lw_p9 : lw_okq (⟨"GoingAbout$Reading", "readLevel", "(II)Z"⟩, 6) := ⟨⟨by decide +kernel, by decide +kernel⟩, List.mem_of_getElem? (i := 127) (by decide +kernel), List.mem_of_getElem? (i := 348) (by decide +kernel), List.mem_of_getElem? (i := 349) (by decide +kernel)⟩
theorem lw_p10 : lw_okq (⟨"GoingAbout$Reading", "readInner", "(I)Z"⟩, 6) := ⟨⟨by decide +kernel, by decide +kernel⟩, List.mem_of_getElem? (i := 127) (by decide +kernel), List.mem_of_getElem? (i := 352) (by decide +kernel), List.mem_of_getElem? (i := 353) (by decide +kernel)⟩
theorem lw_p11 : lw_okq (⟨"GoingAbout$Reading", "readNumber", "()Z"⟩, 6) := ⟨⟨by decide +kernel, by decide +kernel⟩, List.mem_of_getElem? (i := 127) (by decide +kernel), List.mem_of_getElem? (i := 359) (by decide +kernel), List.mem_of_getElem? (i := 360) (by decide +kernel)⟩
theorem lw_p12 : lw_okq (⟨"GoingAbout$Reading", "step", "(I)V"⟩, 6) := ⟨⟨by decide +kernel, by decide +kernel⟩, List.mem_of_getElem? (i := 127) (by decide +kernel), List.mem_of_getElem? (i := 363) (by decide +kernel), List.mem_of_getElem? (i := 364) (by decide +kernel)⟩
theorem lw_p13 : lw_okq (⟨"GoingAbout$Reading", "readClosing", "()Z"⟩, 6) := ⟨⟨by decide +kernel, by decide +kernel⟩, List.mem_of_getElem? (i := 127) (by decide +kernel), List.mem_of_getElem? (i := 449) (by decide +kernel), List.mem_of_getElem? (i := 450) (by decide +kernel)⟩
theorem lw_p14 : lw_okq (⟨"GoingAbout$Law", "copy", "([II)V"⟩, 4) := ⟨⟨by decide +kernel, by decide +kernel⟩, List.mem_of_getElem? (i := 55) (by decide +kernel), List.mem_of_getElem? (i := 456) (by decide +kernel), List.mem_of_getElem? (i := 457) (by decide +kernel)⟩
theorem lw_p15 : lw_okq (⟨"GoingAbout$Suburb", "pass", "(LGoingAbout$Standing;)Z"⟩, 12) := ⟨⟨by decide +kernel, by decide +kernel⟩, List.mem_of_getElem? (i := 26) (by decide +kernel), List.mem_of_getElem? (i := 474) (by decide +kernel), List.mem_of_getElem? (i := 475) (by decide +kernel)⟩
def lw_privs_1 : List (MethodName × Nat) := [(⟨"GoingAbout", "error", "(I)I"⟩, 9), (⟨"GoingAbout$Suburb", "join", "(III)I"⟩, 12), (⟨"GoingAbout$Suburb", "has", "(I)Z"⟩, 12), (⟨"GoingAbout$Suburb", "takenBy", "(IIII)I"⟩, 12), (⟨"GoingAbout$Law", "gives", "(III)I"⟩, 4), (⟨"GoingAbout$Suburb", "meet", "(II)I"⟩, 12), (⟨"GoingAbout$Suburb", "record", "(JI)I"⟩, 12), (⟨"GoingAbout$Suburb", "lawOf", "(I)LGoingAbout$Law;"⟩, 12), (⟨"GoingAbout$Reading", "read", "([BIILGoingAbout$Law;)I"⟩, 6), (⟨"GoingAbout$Reading", "readLevel", "(II)Z"⟩, 6), (⟨"GoingAbout$Reading", "readInner", "(I)Z"⟩, 6), (⟨"GoingAbout$Reading", "readNumber", "()Z"⟩, 6), (⟨"GoingAbout$Reading", "step", "(I)V"⟩, 6), (⟨"GoingAbout$Reading", "readClosing", "()Z"⟩, 6), (⟨"GoingAbout$Law", "copy", "([II)V"⟩, 4), (⟨"GoingAbout$Suburb", "pass", "(LGoingAbout$Standing;)Z"⟩, 12)]
theorem lw_r1 : ∀ q ∈ lw_privs_1, lw_okq q := List.forall_mem_cons.mpr ⟨lw_p0, List.forall_mem_cons.mpr ⟨lw_p1, List.forall_mem_cons.mpr ⟨lw_p2, List.forall_mem_cons.mpr ⟨lw_p3, List.forall_mem_cons.mpr ⟨lw_p4, List.forall_mem_cons.mpr ⟨lw_p5, List.forall_mem_cons.mpr ⟨lw_p6, List.forall_mem_cons.mpr ⟨lw_p7, List.forall_mem_cons.mpr ⟨lw_p8, List.forall_mem_cons.mpr ⟨lw_p9, List.forall_mem_cons.mpr ⟨lw_p10, List.forall_mem_cons.mpr ⟨lw_p11, List.forall_mem_cons.mpr ⟨lw_p12, List.forall_mem_cons.mpr ⟨lw_p13, List.forall_mem_cons.mpr ⟨lw_p14, List.forall_mem_cons.mpr ⟨lw_p15, fun _ h => absurd h List.not_mem_nil⟩⟩⟩⟩⟩⟩⟩⟩⟩⟩⟩⟩⟩⟩⟩⟩
theorem lw_p16 : lw_okq (⟨"GoingAbout$Suburb", "nearAfter", "(ILGoingAbout$Standing;)I"⟩, 12) := ⟨⟨by decide +kernel, by decide +kernel⟩, List.mem_of_getElem? (i := 26) (by decide +kernel), List.mem_of_getElem? (i := 478) (by decide +kernel), List.mem_of_getElem? (i := 479) (by decide +kernel)⟩
theorem lw_p17 : lw_okq (⟨"GoingAbout$Suburb", "signOf", "(ILGoingAbout$Standing;)I"⟩, 12) := ⟨⟨by decide +kernel, by decide +kernel⟩, List.mem_of_getElem? (i := 26) (by decide +kernel), List.mem_of_getElem? (i := 483) (by decide +kernel), List.mem_of_getElem? (i := 484) (by decide +kernel)⟩
theorem lw_p18 : lw_okq (⟨"GoingAbout$Suburb", "drawMoves", "()V"⟩, 12) := ⟨⟨by decide +kernel, by decide +kernel⟩, List.mem_of_getElem? (i := 26) (by decide +kernel), List.mem_of_getElem? (i := 494) (by decide +kernel), List.mem_of_getElem? (i := 495) (by decide +kernel)⟩
theorem lw_p19 : lw_okq (⟨"GoingAbout$Suburb", "draw", "()I"⟩, 12) := ⟨⟨by decide +kernel, by decide +kernel⟩, List.mem_of_getElem? (i := 26) (by decide +kernel), List.mem_of_getElem? (i := 498) (by decide +kernel), List.mem_of_getElem? (i := 499) (by decide +kernel)⟩
theorem lw_p20 : lw_okq (⟨"GoingAbout$Suburb", "nearestIn", "(LGoingAbout$Standing;)I"⟩, 12) := ⟨⟨by decide +kernel, by decide +kernel⟩, List.mem_of_getElem? (i := 26) (by decide +kernel), List.mem_of_getElem? (i := 504) (by decide +kernel), List.mem_of_getElem? (i := 505) (by decide +kernel)⟩
theorem lw_p21 : lw_okq (⟨"GoingAbout", "think", "(I)V"⟩, 9) := ⟨⟨by decide +kernel, by decide +kernel⟩, List.mem_of_getElem? (i := 18) (by decide +kernel), List.mem_of_getElem? (i := 516) (by decide +kernel), List.mem_of_getElem? (i := 517) (by decide +kernel)⟩
theorem lw_p22 : lw_okq (⟨"GoingAbout$Standing", "copy", "(LGoingAbout$Standing;)V"⟩, 3) := ⟨⟨by decide +kernel, by decide +kernel⟩, List.mem_of_getElem? (i := 32) (by decide +kernel), List.mem_of_getElem? (i := 520) (by decide +kernel), List.mem_of_getElem? (i := 521) (by decide +kernel)⟩
theorem lw_p23 : lw_okq (⟨"GoingAbout$Suburb", "countNearer", "(I)I"⟩, 12) := ⟨⟨by decide +kernel, by decide +kernel⟩, List.mem_of_getElem? (i := 26) (by decide +kernel), List.mem_of_getElem? (i := 537) (by decide +kernel), List.mem_of_getElem? (i := 538) (by decide +kernel)⟩
theorem lw_p24 : lw_okq (⟨"GoingAbout", "thinkSigned", "(II)V"⟩, 9) := ⟨⟨by decide +kernel, by decide +kernel⟩, List.mem_of_getElem? (i := 18) (by decide +kernel), List.mem_of_getElem? (i := 545) (by decide +kernel), List.mem_of_getElem? (i := 546) (by decide +kernel)⟩
theorem lw_p25 : lw_okq (⟨"GoingAbout", "fewestFor", "(I)I"⟩, 9) := ⟨⟨by decide +kernel, by decide +kernel⟩, List.mem_of_getElem? (i := 18) (by decide +kernel), List.mem_of_getElem? (i := 549) (by decide +kernel), List.mem_of_getElem? (i := 550) (by decide +kernel)⟩
theorem lw_p26 : lw_okq (⟨"GoingAbout", "nearestIfSigned", "(I)I"⟩, 9) := ⟨⟨by decide +kernel, by decide +kernel⟩, List.mem_of_getElem? (i := 18) (by decide +kernel), List.mem_of_getElem? (i := 559) (by decide +kernel), List.mem_of_getElem? (i := 560) (by decide +kernel)⟩
theorem lw_p27 : lw_okq (⟨"GoingAbout", "nearIfSigned", "(II)I"⟩, 9) := ⟨⟨by decide +kernel, by decide +kernel⟩, List.mem_of_getElem? (i := 18) (by decide +kernel), List.mem_of_getElem? (i := 563) (by decide +kernel), List.mem_of_getElem? (i := 564) (by decide +kernel)⟩
theorem lw_p28 : lw_okq (⟨"GoingAbout$Suburb", "comeToFrom", "(I)I"⟩, 12) := ⟨⟨by decide +kernel, by decide +kernel⟩, List.mem_of_getElem? (i := 26) (by decide +kernel), List.mem_of_getElem? (i := 571) (by decide +kernel), List.mem_of_getElem? (i := 572) (by decide +kernel)⟩
theorem lw_p29 : lw_okq (⟨"GoingAbout$Suburb", "countTakenNearer", "(I)I"⟩, 12) := ⟨⟨by decide +kernel, by decide +kernel⟩, List.mem_of_getElem? (i := 26) (by decide +kernel), List.mem_of_getElem? (i := 579) (by decide +kernel), List.mem_of_getElem? (i := 580) (by decide +kernel)⟩
theorem lw_p30 : lw_okq (⟨"GoingAbout$Sheet", "isMissing", "()Z"⟩, 3) := ⟨⟨by decide +kernel, by decide +kernel⟩, List.mem_of_getElem? (i := 182) (by decide +kernel), List.mem_of_getElem? (i := 593) (by decide +kernel), List.mem_of_getElem? (i := 594) (by decide +kernel)⟩
theorem lw_p31 : lw_okq (⟨"GoingAbout", "tellsMixed", "(LGoingAbout$Sheet;I)Z"⟩, 9) := ⟨⟨by decide +kernel, by decide +kernel⟩, List.mem_of_getElem? (i := 18) (by decide +kernel), List.mem_of_getElem? (i := 597) (by decide +kernel), List.mem_of_getElem? (i := 598) (by decide +kernel)⟩
def lw_privs_2 : List (MethodName × Nat) := [(⟨"GoingAbout$Suburb", "nearAfter", "(ILGoingAbout$Standing;)I"⟩, 12), (⟨"GoingAbout$Suburb", "signOf", "(ILGoingAbout$Standing;)I"⟩, 12), (⟨"GoingAbout$Suburb", "drawMoves", "()V"⟩, 12), (⟨"GoingAbout$Suburb", "draw", "()I"⟩, 12), (⟨"GoingAbout$Suburb", "nearestIn", "(LGoingAbout$Standing;)I"⟩, 12), (⟨"GoingAbout", "think", "(I)V"⟩, 9), (⟨"GoingAbout$Standing", "copy", "(LGoingAbout$Standing;)V"⟩, 3), (⟨"GoingAbout$Suburb", "countNearer", "(I)I"⟩, 12), (⟨"GoingAbout", "thinkSigned", "(II)V"⟩, 9), (⟨"GoingAbout", "fewestFor", "(I)I"⟩, 9), (⟨"GoingAbout", "nearestIfSigned", "(I)I"⟩, 9), (⟨"GoingAbout", "nearIfSigned", "(II)I"⟩, 9), (⟨"GoingAbout$Suburb", "comeToFrom", "(I)I"⟩, 12), (⟨"GoingAbout$Suburb", "countTakenNearer", "(I)I"⟩, 12), (⟨"GoingAbout$Sheet", "isMissing", "()Z"⟩, 3), (⟨"GoingAbout", "tellsMixed", "(LGoingAbout$Sheet;I)Z"⟩, 9)]
theorem lw_r2 : ∀ q ∈ lw_privs_2, lw_okq q := List.forall_mem_cons.mpr ⟨lw_p16, List.forall_mem_cons.mpr ⟨lw_p17, List.forall_mem_cons.mpr ⟨lw_p18, List.forall_mem_cons.mpr ⟨lw_p19, List.forall_mem_cons.mpr ⟨lw_p20, List.forall_mem_cons.mpr ⟨lw_p21, List.forall_mem_cons.mpr ⟨lw_p22, List.forall_mem_cons.mpr ⟨lw_p23, List.forall_mem_cons.mpr ⟨lw_p24, List.forall_mem_cons.mpr ⟨lw_p25, List.forall_mem_cons.mpr ⟨lw_p26, List.forall_mem_cons.mpr ⟨lw_p27, List.forall_mem_cons.mpr ⟨lw_p28, List.forall_mem_cons.mpr ⟨lw_p29, List.forall_mem_cons.mpr ⟨lw_p30, List.forall_mem_cons.mpr ⟨lw_p31, fun _ h => absurd h List.not_mem_nil⟩⟩⟩⟩⟩⟩⟩⟩⟩⟩⟩⟩⟩⟩⟩⟩
theorem lw_p32 : lw_okq (⟨"GoingAbout$Voices", "hear", "(IIIII)I"⟩, 6) := ⟨⟨by decide +kernel, by decide +kernel⟩, List.mem_of_getElem? (i := 153) (by decide +kernel), List.mem_of_getElem? (i := 610) (by decide +kernel), List.mem_of_getElem? (i := 611) (by decide +kernel)⟩
theorem lw_p33 : lw_okq (⟨"GoingAbout$Voices", "speak", "(IIII)I"⟩, 6) := ⟨⟨by decide +kernel, by decide +kernel⟩, List.mem_of_getElem? (i := 153) (by decide +kernel), List.mem_of_getElem? (i := 614) (by decide +kernel), List.mem_of_getElem? (i := 615) (by decide +kernel)⟩
theorem lw_p34 : lw_okq (⟨"GoingAbout$Voices", "workOut", "(IIII)I"⟩, 6) := ⟨⟨by decide +kernel, by decide +kernel⟩, List.mem_of_getElem? (i := 153) (by decide +kernel), List.mem_of_getElem? (i := 622) (by decide +kernel), List.mem_of_getElem? (i := 623) (by decide +kernel)⟩
theorem lw_p35 : lw_okq (⟨"GoingAbout$Voices", "part", "(I)I"⟩, 6) := ⟨⟨by decide +kernel, by decide +kernel⟩, List.mem_of_getElem? (i := 153) (by decide +kernel), List.mem_of_getElem? (i := 626) (by decide +kernel), List.mem_of_getElem? (i := 627) (by decide +kernel)⟩
theorem lw_p36 : lw_okq (⟨"GoingAbout$Voices", "partAndStir", "(III)I"⟩, 6) := ⟨⟨by decide +kernel, by decide +kernel⟩, List.mem_of_getElem? (i := 153) (by decide +kernel), List.mem_of_getElem? (i := 630) (by decide +kernel), List.mem_of_getElem? (i := 631) (by decide +kernel)⟩
theorem lw_p37 : lw_okq (⟨"GoingAbout$Sheet", "lay", "(II)V"⟩, 3) := ⟨⟨by decide +kernel, by decide +kernel⟩, List.mem_of_getElem? (i := 182) (by decide +kernel), List.mem_of_getElem? (i := 642) (by decide +kernel), List.mem_of_getElem? (i := 643) (by decide +kernel)⟩
theorem lw_p38 : lw_okq (⟨"GoingAbout$Sheet", "write", "(II)V"⟩, 3) := ⟨⟨by decide +kernel, by decide +kernel⟩, List.mem_of_getElem? (i := 182) (by decide +kernel), List.mem_of_getElem? (i := 652) (by decide +kernel), List.mem_of_getElem? (i := 653) (by decide +kernel)⟩
theorem lw_p39 : lw_okq (⟨"GoingAbout$Sheet", "holds", "(II)Z"⟩, 3) := ⟨⟨by decide +kernel, by decide +kernel⟩, List.mem_of_getElem? (i := 182) (by decide +kernel), List.mem_of_getElem? (i := 660) (by decide +kernel), List.mem_of_getElem? (i := 661) (by decide +kernel)⟩
theorem lw_p40 : lw_okq (⟨"GoingAbout$Suburb", "copy", "(LGoingAbout$Suburb;)V"⟩, 12) := ⟨⟨by decide +kernel, by decide +kernel⟩, List.mem_of_getElem? (i := 26) (by decide +kernel), List.mem_of_getElem? (i := 678) (by decide +kernel), List.mem_of_getElem? (i := 679) (by decide +kernel)⟩
theorem lw_p41 : lw_okq (⟨"GoingAboutModel", "error", "(I)I"⟩, 22) := ⟨⟨by decide +kernel, by decide +kernel⟩, List.mem_of_getElem? (i := 705) (by decide +kernel), List.mem_of_getElem? (i := 785) (by decide +kernel), List.mem_of_getElem? (i := 786) (by decide +kernel)⟩
theorem lw_p42 : lw_okq (⟨"GoingAboutModel", "whole", "()Z"⟩, 22) := ⟨⟨by decide +kernel, by decide +kernel⟩, List.mem_of_getElem? (i := 705) (by decide +kernel), List.mem_of_getElem? (i := 795) (by decide +kernel), List.mem_of_getElem? (i := 796) (by decide +kernel)⟩
theorem lw_p43 : lw_okq (⟨"GoingAboutModel", "both", "()Z"⟩, 22) := ⟨⟨by decide +kernel, by decide +kernel⟩, List.mem_of_getElem? (i := 705) (by decide +kernel), List.mem_of_getElem? (i := 799) (by decide +kernel), List.mem_of_getElem? (i := 800) (by decide +kernel)⟩
theorem lw_p44 : lw_okq (⟨"GoingAboutModel", "compared", "()Z"⟩, 22) := ⟨⟨by decide +kernel, by decide +kernel⟩, List.mem_of_getElem? (i := 705) (by decide +kernel), List.mem_of_getElem? (i := 803) (by decide +kernel), List.mem_of_getElem? (i := 804) (by decide +kernel)⟩
theorem lw_p45 : lw_okq (⟨"GoingAboutModel", "sum", "()Z"⟩, 22) := ⟨⟨by decide +kernel, by decide +kernel⟩, List.mem_of_getElem? (i := 705) (by decide +kernel), List.mem_of_getElem? (i := 807) (by decide +kernel), List.mem_of_getElem? (i := 808) (by decide +kernel)⟩
theorem lw_p46 : lw_okq (⟨"GoingAboutModel", "product", "()Z"⟩, 22) := ⟨⟨by decide +kernel, by decide +kernel⟩, List.mem_of_getElem? (i := 705) (by decide +kernel), List.mem_of_getElem? (i := 811) (by decide +kernel), List.mem_of_getElem? (i := 812) (by decide +kernel)⟩
theorem lw_p47 : lw_okq (⟨"GoingAboutModel", "one", "()Z"⟩, 22) := ⟨⟨by decide +kernel, by decide +kernel⟩, List.mem_of_getElem? (i := 705) (by decide +kernel), List.mem_of_getElem? (i := 815) (by decide +kernel), List.mem_of_getElem? (i := 816) (by decide +kernel)⟩
def lw_privs_3 : List (MethodName × Nat) := [(⟨"GoingAbout$Voices", "hear", "(IIIII)I"⟩, 6), (⟨"GoingAbout$Voices", "speak", "(IIII)I"⟩, 6), (⟨"GoingAbout$Voices", "workOut", "(IIII)I"⟩, 6), (⟨"GoingAbout$Voices", "part", "(I)I"⟩, 6), (⟨"GoingAbout$Voices", "partAndStir", "(III)I"⟩, 6), (⟨"GoingAbout$Sheet", "lay", "(II)V"⟩, 3), (⟨"GoingAbout$Sheet", "write", "(II)V"⟩, 3), (⟨"GoingAbout$Sheet", "holds", "(II)Z"⟩, 3), (⟨"GoingAbout$Suburb", "copy", "(LGoingAbout$Suburb;)V"⟩, 12), (⟨"GoingAboutModel", "error", "(I)I"⟩, 22), (⟨"GoingAboutModel", "whole", "()Z"⟩, 22), (⟨"GoingAboutModel", "both", "()Z"⟩, 22), (⟨"GoingAboutModel", "compared", "()Z"⟩, 22), (⟨"GoingAboutModel", "sum", "()Z"⟩, 22), (⟨"GoingAboutModel", "product", "()Z"⟩, 22), (⟨"GoingAboutModel", "one", "()Z"⟩, 22)]
theorem lw_r3 : ∀ q ∈ lw_privs_3, lw_okq q := List.forall_mem_cons.mpr ⟨lw_p32, List.forall_mem_cons.mpr ⟨lw_p33, List.forall_mem_cons.mpr ⟨lw_p34, List.forall_mem_cons.mpr ⟨lw_p35, List.forall_mem_cons.mpr ⟨lw_p36, List.forall_mem_cons.mpr ⟨lw_p37, List.forall_mem_cons.mpr ⟨lw_p38, List.forall_mem_cons.mpr ⟨lw_p39, List.forall_mem_cons.mpr ⟨lw_p40, List.forall_mem_cons.mpr ⟨lw_p41, List.forall_mem_cons.mpr ⟨lw_p42, List.forall_mem_cons.mpr ⟨lw_p43, List.forall_mem_cons.mpr ⟨lw_p44, List.forall_mem_cons.mpr ⟨lw_p45, List.forall_mem_cons.mpr ⟨lw_p46, List.forall_mem_cons.mpr ⟨lw_p47, fun _ h => absurd h List.not_mem_nil⟩⟩⟩⟩⟩⟩⟩⟩⟩⟩⟩⟩⟩⟩⟩⟩
theorem lw_p48 : lw_okq (⟨"GoingAboutModel", "look", "()I"⟩, 22) := ⟨⟨by decide +kernel, by decide +kernel⟩, List.mem_of_getElem? (i := 705) (by decide +kernel), List.mem_of_getElem? (i := 819) (by decide +kernel), List.mem_of_getElem? (i := 820) (by decide +kernel)⟩
theorem lw_p49 : lw_okq (⟨"GoingAboutModel", "isName", "(I)Z"⟩, 22) := ⟨⟨by decide +kernel, by decide +kernel⟩, List.mem_of_getElem? (i := 705) (by decide +kernel), List.mem_of_getElem? (i := 823) (by decide +kernel), List.mem_of_getElem? (i := 824) (by decide +kernel)⟩
theorem lw_p50 : lw_okq (⟨"GoingAboutModel", "step1", "(II)V"⟩, 22) := ⟨⟨by decide +kernel, by decide +kernel⟩, List.mem_of_getElem? (i := 705) (by decide +kernel), List.mem_of_getElem? (i := 827) (by decide +kernel), List.mem_of_getElem? (i := 828) (by decide +kernel)⟩
theorem lw_p51 : lw_okq (⟨"GoingAboutModel", "opens", "()Z"⟩, 22) := ⟨⟨by decide +kernel, by decide +kernel⟩, List.mem_of_getElem? (i := 705) (by decide +kernel), List.mem_of_getElem? (i := 831) (by decide +kernel), List.mem_of_getElem? (i := 832) (by decide +kernel)⟩
theorem lw_p52 : lw_okq (⟨"GoingAboutModel", "hasText", "(I)Z"⟩, 22) := ⟨⟨by decide +kernel, by decide +kernel⟩, List.mem_of_getElem? (i := 705) (by decide +kernel), List.mem_of_getElem? (i := 839) (by decide +kernel), List.mem_of_getElem? (i := 840) (by decide +kernel)⟩
theorem lw_p53 : lw_okq (⟨"GoingAboutModel", "lays1", "(III)V"⟩, 22) := ⟨⟨by decide +kernel, by decide +kernel⟩, List.mem_of_getElem? (i := 705) (by decide +kernel), List.mem_of_getElem? (i := 850) (by decide +kernel), List.mem_of_getElem? (i := 851) (by decide +kernel)⟩
theorem lw_p54 : lw_okq (⟨"GoingAboutModel", "isPerson", "(I)Z"⟩, 22) := ⟨⟨by decide +kernel, by decide +kernel⟩, List.mem_of_getElem? (i := 705) (by decide +kernel), List.mem_of_getElem? (i := 858) (by decide +kernel), List.mem_of_getElem? (i := 859) (by decide +kernel)⟩
theorem lw_p55 : lw_okq (⟨"GoingAboutModel", "its", "(II)I"⟩, 22) := ⟨⟨by decide +kernel, by decide +kernel⟩, List.mem_of_getElem? (i := 705) (by decide +kernel), List.mem_of_getElem? (i := 862) (by decide +kernel), List.mem_of_getElem? (i := 863) (by decide +kernel)⟩
theorem lw_p56 : lw_okq (⟨"GoingAboutModel", "change1", "(II)I"⟩, 22) := ⟨⟨by decide +kernel, by decide +kernel⟩, List.mem_of_getElem? (i := 705) (by decide +kernel), List.mem_of_getElem? (i := 870) (by decide +kernel), List.mem_of_getElem? (i := 871) (by decide +kernel)⟩
theorem lw_p57 : lw_okq (⟨"GoingAboutModel", "areTwo", "(II)Z"⟩, 22) := ⟨⟨by decide +kernel, by decide +kernel⟩, List.mem_of_getElem? (i := 705) (by decide +kernel), List.mem_of_getElem? (i := 893) (by decide +kernel), List.mem_of_getElem? (i := 894) (by decide +kernel)⟩
theorem lw_p58 : lw_okq (⟨"GoingAboutModel", "takes", "(II)I"⟩, 22) := ⟨⟨by decide +kernel, by decide +kernel⟩, List.mem_of_getElem? (i := 705) (by decide +kernel), List.mem_of_getElem? (i := 897) (by decide +kernel), List.mem_of_getElem? (i := 898) (by decide +kernel)⟩
theorem lw_p59 : lw_okq (⟨"GoingAboutModel", "readsOf", "(II)I"⟩, 22) := ⟨⟨by decide +kernel, by decide +kernel⟩, List.mem_of_getElem? (i := 705) (by decide +kernel), List.mem_of_getElem? (i := 901) (by decide +kernel), List.mem_of_getElem? (i := 902) (by decide +kernel)⟩
theorem lw_p60 : lw_okq (⟨"GoingAboutModel", "takesTold", "(III)I"⟩, 22) := ⟨⟨by decide +kernel, by decide +kernel⟩, List.mem_of_getElem? (i := 705) (by decide +kernel), List.mem_of_getElem? (i := 905) (by decide +kernel), List.mem_of_getElem? (i := 906) (by decide +kernel)⟩
theorem lw_p61 : lw_okq (⟨"GoingAboutModel", "worked", "(I)I"⟩, 22) := ⟨⟨by decide +kernel, by decide +kernel⟩, List.mem_of_getElem? (i := 705) (by decide +kernel), List.mem_of_getElem? (i := 909) (by decide +kernel), List.mem_of_getElem? (i := 910) (by decide +kernel)⟩
theorem lw_p62 : lw_okq (⟨"GoingAboutModel", "calls", "(II)I"⟩, 22) := ⟨⟨by decide +kernel, by decide +kernel⟩, List.mem_of_getElem? (i := 705) (by decide +kernel), List.mem_of_getElem? (i := 923) (by decide +kernel), List.mem_of_getElem? (i := 924) (by decide +kernel)⟩
theorem lw_p63 : lw_okq (⟨"GoingAboutModel", "signTold", "(III)I"⟩, 22) := ⟨⟨by decide +kernel, by decide +kernel⟩, List.mem_of_getElem? (i := 705) (by decide +kernel), List.mem_of_getElem? (i := 931) (by decide +kernel), List.mem_of_getElem? (i := 932) (by decide +kernel)⟩
def lw_privs_4 : List (MethodName × Nat) := [(⟨"GoingAboutModel", "look", "()I"⟩, 22), (⟨"GoingAboutModel", "isName", "(I)Z"⟩, 22), (⟨"GoingAboutModel", "step1", "(II)V"⟩, 22), (⟨"GoingAboutModel", "opens", "()Z"⟩, 22), (⟨"GoingAboutModel", "hasText", "(I)Z"⟩, 22), (⟨"GoingAboutModel", "lays1", "(III)V"⟩, 22), (⟨"GoingAboutModel", "isPerson", "(I)Z"⟩, 22), (⟨"GoingAboutModel", "its", "(II)I"⟩, 22), (⟨"GoingAboutModel", "change1", "(II)I"⟩, 22), (⟨"GoingAboutModel", "areTwo", "(II)Z"⟩, 22), (⟨"GoingAboutModel", "takes", "(II)I"⟩, 22), (⟨"GoingAboutModel", "readsOf", "(II)I"⟩, 22), (⟨"GoingAboutModel", "takesTold", "(III)I"⟩, 22), (⟨"GoingAboutModel", "worked", "(I)I"⟩, 22), (⟨"GoingAboutModel", "calls", "(II)I"⟩, 22), (⟨"GoingAboutModel", "signTold", "(III)I"⟩, 22)]
theorem lw_r4 : ∀ q ∈ lw_privs_4, lw_okq q := List.forall_mem_cons.mpr ⟨lw_p48, List.forall_mem_cons.mpr ⟨lw_p49, List.forall_mem_cons.mpr ⟨lw_p50, List.forall_mem_cons.mpr ⟨lw_p51, List.forall_mem_cons.mpr ⟨lw_p52, List.forall_mem_cons.mpr ⟨lw_p53, List.forall_mem_cons.mpr ⟨lw_p54, List.forall_mem_cons.mpr ⟨lw_p55, List.forall_mem_cons.mpr ⟨lw_p56, List.forall_mem_cons.mpr ⟨lw_p57, List.forall_mem_cons.mpr ⟨lw_p58, List.forall_mem_cons.mpr ⟨lw_p59, List.forall_mem_cons.mpr ⟨lw_p60, List.forall_mem_cons.mpr ⟨lw_p61, List.forall_mem_cons.mpr ⟨lw_p62, List.forall_mem_cons.mpr ⟨lw_p63, fun _ h => absurd h List.not_mem_nil⟩⟩⟩⟩⟩⟩⟩⟩⟩⟩⟩⟩⟩⟩⟩⟩
theorem lw_p64 : lw_okq (⟨"GoingAboutModel", "whyNot", "(II)I"⟩, 22) := ⟨⟨by decide +kernel, by decide +kernel⟩, List.mem_of_getElem? (i := 705) (by decide +kernel), List.mem_of_getElem? (i := 939) (by decide +kernel), List.mem_of_getElem? (i := 940) (by decide +kernel)⟩
theorem lw_p65 : lw_okq (⟨"GoingAboutModel", "goes", "(I)V"⟩, 22) := ⟨⟨by decide +kernel, by decide +kernel⟩, List.mem_of_getElem? (i := 705) (by decide +kernel), List.mem_of_getElem? (i := 943) (by decide +kernel), List.mem_of_getElem? (i := 944) (by decide +kernel)⟩
theorem lw_p66 : lw_okq (⟨"GoingAboutModel", "aDay", "()V"⟩, 22) := ⟨⟨by decide +kernel, by decide +kernel⟩, List.mem_of_getElem? (i := 705) (by decide +kernel), List.mem_of_getElem? (i := 947) (by decide +kernel), List.mem_of_getElem? (i := 948) (by decide +kernel)⟩
theorem lw_p67 : lw_okq (⟨"GoingAboutModel", "findThen", "()V"⟩, 22) := ⟨⟨by decide +kernel, by decide +kernel⟩, List.mem_of_getElem? (i := 705) (by decide +kernel), List.mem_of_getElem? (i := 951) (by decide +kernel), List.mem_of_getElem? (i := 952) (by decide +kernel)⟩
theorem lw_p68 : lw_okq (⟨"GoingAboutModel", "signOf", "(I)I"⟩, 22) := ⟨⟨by decide +kernel, by decide +kernel⟩, List.mem_of_getElem? (i := 705) (by decide +kernel), List.mem_of_getElem? (i := 955) (by decide +kernel), List.mem_of_getElem? (i := 956) (by decide +kernel)⟩
theorem lw_p69 : lw_okq (⟨"GoingAboutModel", "tellsOf", "(I)I"⟩, 22) := ⟨⟨by decide +kernel, by decide +kernel⟩, List.mem_of_getElem? (i := 705) (by decide +kernel), List.mem_of_getElem? (i := 959) (by decide +kernel), List.mem_of_getElem? (i := 960) (by decide +kernel)⟩
theorem lw_p70 : lw_okq (⟨"GoingAboutModel", "errands", "()V"⟩, 22) := ⟨⟨by decide +kernel, by decide +kernel⟩, List.mem_of_getElem? (i := 705) (by decide +kernel), List.mem_of_getElem? (i := 967) (by decide +kernel), List.mem_of_getElem? (i := 968) (by decide +kernel)⟩
theorem lw_p71 : lw_okq (⟨"GoingAboutModel", "draw", "()I"⟩, 22) := ⟨⟨by decide +kernel, by decide +kernel⟩, List.mem_of_getElem? (i := 705) (by decide +kernel), List.mem_of_getElem? (i := 971) (by decide +kernel), List.mem_of_getElem? (i := 972) (by decide +kernel)⟩
theorem lw_p72 : lw_okq (⟨"GoingAboutModel", "nearestNow", "()I"⟩, 22) := ⟨⟨by decide +kernel, by decide +kernel⟩, List.mem_of_getElem? (i := 705) (by decide +kernel), List.mem_of_getElem? (i := 976) (by decide +kernel), List.mem_of_getElem? (i := 977) (by decide +kernel)⟩
theorem lw_p73 : lw_okq (⟨"GoingAboutModel", "layDown", "()V"⟩, 22) := ⟨⟨by decide +kernel, by decide +kernel⟩, List.mem_of_getElem? (i := 705) (by decide +kernel), List.mem_of_getElem? (i := 988) (by decide +kernel), List.mem_of_getElem? (i := 989) (by decide +kernel)⟩
theorem lw_p74 : lw_okq (⟨"GoingAboutModel", "layBack", "()V"⟩, 22) := ⟨⟨by decide +kernel, by decide +kernel⟩, List.mem_of_getElem? (i := 705) (by decide +kernel), List.mem_of_getElem? (i := 992) (by decide +kernel), List.mem_of_getElem? (i := 993) (by decide +kernel)⟩
theorem lw_p75 : lw_okq (⟨"GoingAboutModel", "isSettled", "()Z"⟩, 22) := ⟨⟨by decide +kernel, by decide +kernel⟩, List.mem_of_getElem? (i := 705) (by decide +kernel), List.mem_of_getElem? (i := 1004) (by decide +kernel), List.mem_of_getElem? (i := 1005) (by decide +kernel)⟩
theorem lw_p76 : lw_okq (⟨"GoingAboutModel", "doesLead", "(IIII)Z"⟩, 22) := ⟨⟨by decide +kernel, by decide +kernel⟩, List.mem_of_getElem? (i := 705) (by decide +kernel), List.mem_of_getElem? (i := 1019) (by decide +kernel), List.mem_of_getElem? (i := 1020) (by decide +kernel)⟩
theorem lw_p77 : lw_okq (⟨"GoingAboutModel", "lacks", "(I)I"⟩, 22) := ⟨⟨by decide +kernel, by decide +kernel⟩, List.mem_of_getElem? (i := 705) (by decide +kernel), List.mem_of_getElem? (i := 1038) (by decide +kernel), List.mem_of_getElem? (i := 1039) (by decide +kernel)⟩
theorem lw_p78 : lw_okq (⟨"GoingAboutModel", "isSoBy", "(IIII)Z"⟩, 22) := ⟨⟨by decide +kernel, by decide +kernel⟩, List.mem_of_getElem? (i := 705) (by decide +kernel), List.mem_of_getElem? (i := 1045) (by decide +kernel), List.mem_of_getElem? (i := 1046) (by decide +kernel)⟩
theorem lw_p79 : lw_okq (⟨"GoingAboutModel", "areNearSo", "(I)Z"⟩, 22) := ⟨⟨by decide +kernel, by decide +kernel⟩, List.mem_of_getElem? (i := 705) (by decide +kernel), List.mem_of_getElem? (i := 1049) (by decide +kernel), List.mem_of_getElem? (i := 1050) (by decide +kernel)⟩
def lw_privs_5 : List (MethodName × Nat) := [(⟨"GoingAboutModel", "whyNot", "(II)I"⟩, 22), (⟨"GoingAboutModel", "goes", "(I)V"⟩, 22), (⟨"GoingAboutModel", "aDay", "()V"⟩, 22), (⟨"GoingAboutModel", "findThen", "()V"⟩, 22), (⟨"GoingAboutModel", "signOf", "(I)I"⟩, 22), (⟨"GoingAboutModel", "tellsOf", "(I)I"⟩, 22), (⟨"GoingAboutModel", "errands", "()V"⟩, 22), (⟨"GoingAboutModel", "draw", "()I"⟩, 22), (⟨"GoingAboutModel", "nearestNow", "()I"⟩, 22), (⟨"GoingAboutModel", "layDown", "()V"⟩, 22), (⟨"GoingAboutModel", "layBack", "()V"⟩, 22), (⟨"GoingAboutModel", "isSettled", "()Z"⟩, 22), (⟨"GoingAboutModel", "doesLead", "(IIII)Z"⟩, 22), (⟨"GoingAboutModel", "lacks", "(I)I"⟩, 22), (⟨"GoingAboutModel", "isSoBy", "(IIII)Z"⟩, 22), (⟨"GoingAboutModel", "areNearSo", "(I)Z"⟩, 22)]
theorem lw_r5 : ∀ q ∈ lw_privs_5, lw_okq q := List.forall_mem_cons.mpr ⟨lw_p64, List.forall_mem_cons.mpr ⟨lw_p65, List.forall_mem_cons.mpr ⟨lw_p66, List.forall_mem_cons.mpr ⟨lw_p67, List.forall_mem_cons.mpr ⟨lw_p68, List.forall_mem_cons.mpr ⟨lw_p69, List.forall_mem_cons.mpr ⟨lw_p70, List.forall_mem_cons.mpr ⟨lw_p71, List.forall_mem_cons.mpr ⟨lw_p72, List.forall_mem_cons.mpr ⟨lw_p73, List.forall_mem_cons.mpr ⟨lw_p74, List.forall_mem_cons.mpr ⟨lw_p75, List.forall_mem_cons.mpr ⟨lw_p76, List.forall_mem_cons.mpr ⟨lw_p77, List.forall_mem_cons.mpr ⟨lw_p78, List.forall_mem_cons.mpr ⟨lw_p79, fun _ h => absurd h List.not_mem_nil⟩⟩⟩⟩⟩⟩⟩⟩⟩⟩⟩⟩⟩⟩⟩⟩
theorem lw_p80 : lw_okq (⟨"GoingAboutModel", "kindNow", "()I"⟩, 22) := ⟨⟨by decide +kernel, by decide +kernel⟩, List.mem_of_getElem? (i := 705) (by decide +kernel), List.mem_of_getElem? (i := 1061) (by decide +kernel), List.mem_of_getElem? (i := 1062) (by decide +kernel)⟩
theorem lw_p81 : lw_okq (⟨"GoingAboutModel", "sighsAs", "(II)I"⟩, 22) := ⟨⟨by decide +kernel, by decide +kernel⟩, List.mem_of_getElem? (i := 705) (by decide +kernel), List.mem_of_getElem? (i := 1065) (by decide +kernel), List.mem_of_getElem? (i := 1066) (by decide +kernel)⟩
theorem lw_p82 : lw_okq (⟨"GoingAboutModel", "starts", "(I)V"⟩, 22) := ⟨⟨by decide +kernel, by decide +kernel⟩, List.mem_of_getElem? (i := 705) (by decide +kernel), List.mem_of_getElem? (i := 1069) (by decide +kernel), List.mem_of_getElem? (i := 1070) (by decide +kernel)⟩
theorem lw_p83 : lw_okq (⟨"GoingAboutModel", "stirsAs", "(II)I"⟩, 22) := ⟨⟨by decide +kernel, by decide +kernel⟩, List.mem_of_getElem? (i := 705) (by decide +kernel), List.mem_of_getElem? (i := 1073) (by decide +kernel), List.mem_of_getElem? (i := 1074) (by decide +kernel)⟩
theorem lw_p84 : lw_okq (⟨"GoingAboutModel", "mNow", "()I"⟩, 22) := ⟨⟨by decide +kernel, by decide +kernel⟩, List.mem_of_getElem? (i := 705) (by decide +kernel), List.mem_of_getElem? (i := 1077) (by decide +kernel), List.mem_of_getElem? (i := 1078) (by decide +kernel)⟩
theorem lw_p85 : lw_okq (⟨"GoingAboutModel", "callsAs", "(II)I"⟩, 22) := ⟨⟨by decide +kernel, by decide +kernel⟩, List.mem_of_getElem? (i := 705) (by decide +kernel), List.mem_of_getElem? (i := 1081) (by decide +kernel), List.mem_of_getElem? (i := 1082) (by decide +kernel)⟩
theorem lw_p86 : lw_okq (⟨"GoingAboutModel", "partsAs", "(II)I"⟩, 22) := ⟨⟨by decide +kernel, by decide +kernel⟩, List.mem_of_getElem? (i := 705) (by decide +kernel), List.mem_of_getElem? (i := 1085) (by decide +kernel), List.mem_of_getElem? (i := 1086) (by decide +kernel)⟩
def lw_privs_6 : List (MethodName × Nat) := [(⟨"GoingAboutModel", "kindNow", "()I"⟩, 22), (⟨"GoingAboutModel", "sighsAs", "(II)I"⟩, 22), (⟨"GoingAboutModel", "starts", "(I)V"⟩, 22), (⟨"GoingAboutModel", "stirsAs", "(II)I"⟩, 22), (⟨"GoingAboutModel", "mNow", "()I"⟩, 22), (⟨"GoingAboutModel", "callsAs", "(II)I"⟩, 22), (⟨"GoingAboutModel", "partsAs", "(II)I"⟩, 22)]
theorem lw_r6 : ∀ q ∈ lw_privs_6, lw_okq q := List.forall_mem_cons.mpr ⟨lw_p80, List.forall_mem_cons.mpr ⟨lw_p81, List.forall_mem_cons.mpr ⟨lw_p82, List.forall_mem_cons.mpr ⟨lw_p83, List.forall_mem_cons.mpr ⟨lw_p84, List.forall_mem_cons.mpr ⟨lw_p85, List.forall_mem_cons.mpr ⟨lw_p86, fun _ h => absurd h List.not_mem_nil⟩⟩⟩⟩⟩⟩⟩
def lw_privs : List (MethodName × Nat) := lw_privs_1 ++ (lw_privs_2 ++ (lw_privs_3 ++ (lw_privs_4 ++ (lw_privs_5 ++ (lw_privs_6)))))
def lw_tbl : List Cond := k2_sels lw_privs ++ tables_1
theorem lw_privs_ok : ∀ q ∈ lw_privs, lw_okq q := by
  show ∀ q ∈ lw_privs_1 ++ (lw_privs_2 ++ (lw_privs_3 ++ (lw_privs_4 ++ (lw_privs_5 ++ (lw_privs_6))))), lw_okq q
  exact List.forall_mem_append.mpr ⟨lw_r1, List.forall_mem_append.mpr ⟨lw_r2, List.forall_mem_append.mpr ⟨lw_r3, List.forall_mem_append.mpr ⟨lw_r4, List.forall_mem_append.mpr ⟨lw_r5, lw_r6⟩⟩⟩⟩⟩
-- ===== end of PART A; then your names; then what follows =====
theorem goodIn_r {big : List Cond} (ws : List Cond) (ps : List Nat) (hp : ws = ps.filterMap (fun i => big[i]?)) (h : ws.all goodWord = true) : GoodIn big ws := by
  intro w hw
  have h1 := List.all_eq_true.mp h w hw
  rw [hp] at hw
  obtain ⟨i, -, hi⟩ := List.mem_filterMap.mp hw
  have hm : w ∈ big := by first | exact List.mem_of_getElem? hi | exact List.getElem?_mem hi
  exact ⟨hm, good_of_word h1⟩
theorem goodIn_app {big a b : List Cond} (ha : GoodIn big a) (hb : GoodIn big b) : GoodIn big (a ++ b) := fun w h => (List.mem_append.mp h).elim (ha w) (hb w)
theorem goodIn_ca {big a b : List Cond} {c : Cond} (ha : GoodIn big (c :: a)) (hb : GoodIn big b) : GoodIn big (c :: (a ++ b)) := fun w h => (List.mem_cons.mp h).elim (fun e => ha w (List.mem_cons.mpr (Or.inl e))) (fun h => (List.mem_append.mp h).elim (fun h => ha w (List.mem_cons.mpr (Or.inr h))) (hb w))
theorem goodIn_sub {big ws : List Cond} (hm : ∀ w ∈ ws, w ∈ big) (h : ws.all goodWord = true) : GoodIn big ws := fun w hw => ⟨hm w hw, good_of_word (List.all_eq_true.mp h w hw)⟩
def RX0 : String := "GoingAbout$Law"
def TX0 : u_T := fun k => match k with
  | 0 => ("GoingAbout$Law", "most", "I", true)
  | 1 => ("GoingAbout$Law", "steps", "[I", true)
  | 2 => ("GoingAbout$Law", "size", "I", false)
  | _ => ("GoingAbout$Law", "stack", "[I", true)
def tyX0 : Nat → FieldType := fun k => match k with
  | 0 => .int
  | 1 => .array .int
  | 2 => .int
  | _ => .array .int
abbrev wsX00 : List Cond := u_ws RX0 TX0 4
theorem nmX0 : ∀ a, a < 4 → ∀ b, b < 4 → a ≠ b → (TX0 a).2.1 ≠ (TX0 b).2.1 := by decide +kernel
theorem tyX0_ok : ∀ k, k < 4 → parseFieldDescriptor (TX0 k).2.2.1 = some (tyX0 k) := by decide +kernel
abbrev cX0_init : ByteArray := prog_2_method_1_code
def yX0_init : MethodName := ⟨RX0, "<init>", "(I)V"⟩
abbrev cX0_copy : ByteArray := prog_2_method_2_code
def yX0_copy : MethodName := ⟨RX0, "copy", "([II)V"⟩
abbrev cX0_gives : ByteArray := prog_2_method_3_code
def yX0_gives : MethodName := ⟨RX0, "gives", "(III)I"⟩
abbrev cX0_named : ByteArray := prog_2_method_4_code
def yX0_named : MethodName := ⟨RX0, "named", "(IIII)I"⟩
abbrev cX0_joined : ByteArray := prog_2_method_5_code
def yX0_joined : MethodName := ⟨RX0, "joined", "(III)I"⟩
def RX1 : String := "GoingAbout$Reading"
def TX1 : u_T := fun k => match k with
  | 0 => ("GoingAbout$Reading", "bytes", "[B", true)
  | 1 => ("GoingAbout$Reading", "length", "I", false)
  | 2 => ("GoingAbout$Reading", "place", "I", false)
  | 3 => ("GoingAbout$Reading", "names", "Ljava/lang/String;", false)
  | 4 => ("GoingAbout$Reading", "steps", "[I", true)
  | _ => ("GoingAbout$Reading", "size", "I", false)
def tyX1 : Nat → FieldType := fun k => match k with
  | 0 => .array .byte
  | 1 => .int
  | 2 => .int
  | 3 => .object "java/lang/String"
  | 4 => .array .int
  | _ => .int
abbrev wsX10 : List Cond := u_ws RX1 TX1 6
theorem nmX1 : ∀ a, a < 6 → ∀ b, b < 6 → a ≠ b → (TX1 a).2.1 ≠ (TX1 b).2.1 := by decide +kernel
theorem tyX1_ok : ∀ k, k < 6 → parseFieldDescriptor (TX1 k).2.2.1 = some (tyX1 k) := by decide +kernel
abbrev cX1_init : ByteArray := prog_3_method_1_code
def yX1_init : MethodName := ⟨RX1, "<init>", "()V"⟩
abbrev cX1_read : ByteArray := prog_3_method_2_code
def yX1_read : MethodName := ⟨RX1, "read", "([BIILGoingAbout$Law;)I"⟩
abbrev cX1_step : ByteArray := prog_3_method_3_code
def yX1_step : MethodName := ⟨RX1, "step", "(I)V"⟩
abbrev cX1_levelOf : ByteArray := prog_3_method_4_code
def yX1_levelOf : MethodName := ⟨RX1, "levelOf", "(I)I"⟩
abbrev cX1_readLevel : ByteArray := prog_3_method_5_code
def yX1_readLevel : MethodName := ⟨RX1, "readLevel", "(II)Z"⟩
abbrev cX1_readInner : ByteArray := prog_3_method_6_code
def yX1_readInner : MethodName := ⟨RX1, "readInner", "(I)Z"⟩
abbrev cX1_readClosing : ByteArray := prog_3_method_7_code
def yX1_readClosing : MethodName := ⟨RX1, "readClosing", "()Z"⟩
abbrev cX1_readNumber : ByteArray := prog_3_method_8_code
def yX1_readNumber : MethodName := ⟨RX1, "readNumber", "()Z"⟩
abbrev cX1_isDigit : ByteArray := prog_3_method_9_code
def yX1_isDigit : MethodName := ⟨RX1, "isDigit", "(I)Z"⟩
def RX2 : String := "GoingAbout$Sheet"
def TX2 : u_T := fun k => match k with
  | 0 => ("GoingAbout$Sheet", "bits", "I", false)
  | 1 => ("GoingAbout$Sheet", "size", "I", false)
  | _ => ("GoingAbout$Sheet", "numbers", "[I", true)
def tyX2 : Nat → FieldType := fun k => match k with
  | 0 => .int
  | 1 => .int
  | _ => .array .int
abbrev wsX20 : List Cond := u_ws RX2 TX2 3
theorem nmX2 : ∀ a, a < 3 → ∀ b, b < 3 → a ≠ b → (TX2 a).2.1 ≠ (TX2 b).2.1 := by decide +kernel
theorem tyX2_ok : ∀ k, k < 3 → parseFieldDescriptor (TX2 k).2.2.1 = some (tyX2 k) := by decide +kernel
abbrev cX2_init : ByteArray := prog_4_method_1_code
def yX2_init : MethodName := ⟨RX2, "<init>", "()V"⟩
abbrev cX2_isMissing : ByteArray := prog_4_method_2_code
def yX2_isMissing : MethodName := ⟨RX2, "isMissing", "()Z"⟩
abbrev cX2_lay : ByteArray := prog_4_method_3_code
def yX2_lay : MethodName := ⟨RX2, "lay", "(II)V"⟩
abbrev cX2_write : ByteArray := prog_4_method_4_code
def yX2_write : MethodName := ⟨RX2, "write", "(II)V"⟩
abbrev cX2_holds : ByteArray := prog_4_method_5_code
def yX2_holds : MethodName := ⟨RX2, "holds", "(II)Z"⟩
def RX3 : String := "GoingAbout$Standing"
def TX3 : u_T := fun k => match k with
  | 0 => ("GoingAbout$Standing", "near", "[I", true)
  | 1 => ("GoingAbout$Standing", "shows", "[I", true)
  | _ => ("GoingAbout$Standing", "day", "I", false)
def tyX3 : Nat → FieldType := fun k => match k with
  | 0 => .array .int
  | 1 => .array .int
  | _ => .int
abbrev wsX30 : List Cond := u_ws RX3 TX3 3
theorem nmX3 : ∀ a, a < 3 → ∀ b, b < 3 → a ≠ b → (TX3 a).2.1 ≠ (TX3 b).2.1 := by decide +kernel
theorem tyX3_ok : ∀ k, k < 3 → parseFieldDescriptor (TX3 k).2.2.1 = some (tyX3 k) := by decide +kernel
abbrev cX3_init : ByteArray := prog_5_method_1_code
def yX3_init : MethodName := ⟨RX3, "<init>", "()V"⟩
abbrev cX3_copy : ByteArray := prog_5_method_2_code
def yX3_copy : MethodName := ⟨RX3, "copy", "(LGoingAbout$Standing;)V"⟩
def RX4 : String := "GoingAbout$Suburb"
def TX4 : u_T := fun k => match k with
  | 0 => ("GoingAbout$Suburb", "people", "I", false)
  | 1 => ("GoingAbout$Suburb", "kind", "[I", true)
  | 2 => ("GoingAbout$Suburb", "m", "[I", true)
  | 3 => ("GoingAbout$Suburb", "called", "[I", true)
  | 4 => ("GoingAbout$Suburb", "standing", "LGoingAbout$Standing;", true)
  | 5 => ("GoingAbout$Suburb", "takes", "LGoingAbout$Law;", true)
  | 6 => ("GoingAbout$Suburb", "sign", "LGoingAbout$Law;", true)
  | 7 => ("GoingAbout$Suburb", "tape", "[B", true)
  | 8 => ("GoingAbout$Suburb", "taped", "I", false)
  | 9 => ("GoingAbout$Suburb", "waits", "[I", true)
  | 10 => ("GoingAbout$Suburb", "waiting", "I", false)
  | _ => ("GoingAbout$Suburb", "z", "I", false)
def tyX4 : Nat → FieldType := fun k => match k with
  | 0 => .int
  | 1 => .array .int
  | 2 => .array .int
  | 3 => .array .int
  | 4 => .object "GoingAbout$Standing"
  | 5 => .object "GoingAbout$Law"
  | 6 => .object "GoingAbout$Law"
  | 7 => .array .byte
  | 8 => .int
  | 9 => .array .int
  | 10 => .int
  | _ => .int
abbrev wsX40 : List Cond := u_ws RX4 TX4 12
theorem nmX4 : ∀ a, a < 12 → ∀ b, b < 12 → a ≠ b → (TX4 a).2.1 ≠ (TX4 b).2.1 := by decide +kernel
theorem tyX4_ok : ∀ k, k < 12 → parseFieldDescriptor (TX4 k).2.2.1 = some (tyX4 k) := by decide +kernel
abbrev cX4_init : ByteArray := prog_6_method_1_code
def yX4_init : MethodName := ⟨RX4, "<init>", "()V"⟩
abbrev cX4_copy : ByteArray := prog_6_method_2_code
def yX4_copy : MethodName := ⟨RX4, "copy", "(LGoingAbout$Suburb;)V"⟩
abbrev cX4_has : ByteArray := prog_6_method_3_code
def yX4_has : MethodName := ⟨RX4, "has", "(I)Z"⟩
abbrev cX4_lawOf : ByteArray := prog_6_method_4_code
def yX4_lawOf : MethodName := ⟨RX4, "lawOf", "(I)LGoingAbout$Law;"⟩
abbrev cX4_join : ByteArray := prog_6_method_5_code
def yX4_join : MethodName := ⟨RX4, "join", "(III)I"⟩
abbrev cX4_meet : ByteArray := prog_6_method_6_code
def yX4_meet : MethodName := ⟨RX4, "meet", "(II)I"⟩
abbrev cX4_record : ByteArray := prog_6_method_7_code
def yX4_record : MethodName := ⟨RX4, "record", "(JI)I"⟩
abbrev cX4_draw : ByteArray := prog_6_method_8_code
def yX4_draw : MethodName := ⟨RX4, "draw", "()I"⟩
abbrev cX4_drawMoves : ByteArray := prog_6_method_9_code
def yX4_drawMoves : MethodName := ⟨RX4, "drawMoves", "()V"⟩
abbrev cX4_takenBy : ByteArray := prog_6_method_10_code
def yX4_takenBy : MethodName := ⟨RX4, "takenBy", "(IIII)I"⟩
abbrev cX4_signOf : ByteArray := prog_6_method_11_code
def yX4_signOf : MethodName := ⟨RX4, "signOf", "(ILGoingAbout$Standing;)I"⟩
abbrev cX4_nearAfter : ByteArray := prog_6_method_12_code
def yX4_nearAfter : MethodName := ⟨RX4, "nearAfter", "(ILGoingAbout$Standing;)I"⟩
abbrev cX4_pass : ByteArray := prog_6_method_13_code
def yX4_pass : MethodName := ⟨RX4, "pass", "(LGoingAbout$Standing;)Z"⟩
abbrev cX4_nearestIn : ByteArray := prog_6_method_14_code
def yX4_nearestIn : MethodName := ⟨RX4, "nearestIn", "(LGoingAbout$Standing;)I"⟩
abbrev cX4_countNearer : ByteArray := prog_6_method_15_code
def yX4_countNearer : MethodName := ⟨RX4, "countNearer", "(I)I"⟩
abbrev cX4_countTakenNearer : ByteArray := prog_6_method_16_code
def yX4_countTakenNearer : MethodName := ⟨RX4, "countTakenNearer", "(I)I"⟩
abbrev cX4_comeToFrom : ByteArray := prog_6_method_17_code
def yX4_comeToFrom : MethodName := ⟨RX4, "comeToFrom", "(I)I"⟩
abbrev cX4_readsOf : ByteArray := prog_6_method_18_code
def yX4_readsOf : MethodName := ⟨RX4, "readsOf", "(IIIII)I"⟩
abbrev cX4_tellsOf : ByteArray := prog_6_method_19_code
def yX4_tellsOf : MethodName := ⟨RX4, "tellsOf", "(IIII)I"⟩
def RX5 : String := "GoingAbout$Voices"
def TX5 : u_T := fun k => match k with
  | 0 => ("GoingAbout$Voices", "trace", "[I", true)
  | 1 => ("GoingAbout$Voices", "traced", "I", false)
  | 2 => ("GoingAbout$Voices", "parted", "Z", false)
  | 3 => ("GoingAbout$Voices", "k", "I", false)
  | 4 => ("GoingAbout$Voices", "kind", "I", false)
  | _ => ("GoingAbout$Voices", "m", "I", false)
def tyX5 : Nat → FieldType := fun k => match k with
  | 0 => .array .int
  | 1 => .int
  | 2 => .boolean
  | 3 => .int
  | 4 => .int
  | _ => .int
abbrev wsX50 : List Cond := u_ws RX5 TX5 6
theorem nmX5 : ∀ a, a < 6 → ∀ b, b < 6 → a ≠ b → (TX5 a).2.1 ≠ (TX5 b).2.1 := by decide +kernel
theorem tyX5_ok : ∀ k, k < 6 → parseFieldDescriptor (TX5 k).2.2.1 = some (tyX5 k) := by decide +kernel
abbrev cX5_init : ByteArray := prog_7_method_1_code
def yX5_init : MethodName := ⟨RX5, "<init>", "()V"⟩
abbrev cX5_hear : ByteArray := prog_7_method_2_code
def yX5_hear : MethodName := ⟨RX5, "hear", "(IIIII)I"⟩
abbrev cX5_speak : ByteArray := prog_7_method_3_code
def yX5_speak : MethodName := ⟨RX5, "speak", "(IIII)I"⟩
abbrev cX5_workOut : ByteArray := prog_7_method_4_code
def yX5_workOut : MethodName := ⟨RX5, "workOut", "(IIII)I"⟩
abbrev cX5_part : ByteArray := prog_7_method_5_code
def yX5_part : MethodName := ⟨RX5, "part", "(I)I"⟩
abbrev cX5_partAndStir : ByteArray := prog_7_method_6_code
def yX5_partAndStir : MethodName := ⟨RX5, "partAndStir", "(III)I"⟩
def RX6 : String := "GoingAbout"
def TX6 : u_T := fun k => match k with
  | 0 => ("GoingAbout", "now", "LGoingAbout$Suburb;", true)
  | 1 => ("GoingAbout", "kept", "LGoingAbout$Suburb;", true)
  | 2 => ("GoingAbout", "images", "I", false)
  | 3 => ("GoingAbout", "thought", "LGoingAbout$Standing;", true)
  | 4 => ("GoingAbout", "signed", "LGoingAbout$Standing;", true)
  | 5 => ("GoingAbout", "reading", "LGoingAbout$Reading;", true)
  | 6 => ("GoingAbout", "voices", "LGoingAbout$Voices;", true)
  | 7 => ("GoingAbout", "sheets", "[LGoingAbout$Sheet;", true)
  | _ => ("GoingAbout", "errors", "[I", true)
def tyX6 : Nat → FieldType := fun k => match k with
  | 0 => .object "GoingAbout$Suburb"
  | 1 => .object "GoingAbout$Suburb"
  | 2 => .int
  | 3 => .object "GoingAbout$Standing"
  | 4 => .object "GoingAbout$Standing"
  | 5 => .object "GoingAbout$Reading"
  | 6 => .object "GoingAbout$Voices"
  | 7 => .array (.object "GoingAbout$Sheet")
  | _ => .array .int
abbrev wsX60 : List Cond := u_ws RX6 TX6 9
theorem nmX6 : ∀ a, a < 9 → ∀ b, b < 9 → a ≠ b → (TX6 a).2.1 ≠ (TX6 b).2.1 := by decide +kernel
theorem tyX6_ok : ∀ k, k < 9 → parseFieldDescriptor (TX6 k).2.2.1 = some (tyX6 k) := by decide +kernel
abbrev cX6_init : ByteArray := prog_1_method_1_code
def yX6_init : MethodName := ⟨RX6, "<init>", "()V"⟩
abbrev cX6_person : ByteArray := prog_1_method_2_code
def yX6_person : MethodName := ⟨RX6, "person", "(III)I"⟩
abbrev cX6_personIs : ByteArray := prog_1_method_3_code
def yX6_personIs : MethodName := ⟨RX6, "personIs", "(II)I"⟩
abbrev cX6_become : ByteArray := prog_1_method_4_code
def yX6_become : MethodName := ⟨RX6, "become", "(II)I"⟩
abbrev cX6_as : ByteArray := prog_1_method_5_code
def yX6_as : MethodName := ⟨RX6, "as", "(II)I"⟩
abbrev cX6_shows : ByteArray := prog_1_method_6_code
def yX6_shows : MethodName := ⟨RX6, "shows", "(II)I"⟩
abbrev cX6_seems : ByteArray := prog_1_method_7_code
def yX6_seems : MethodName := ⟨RX6, "seems", "(II)I"⟩
abbrev cX6_taken : ByteArray := prog_1_method_8_code
def yX6_taken : MethodName := ⟨RX6, "taken", "(II)I"⟩
abbrev cX6_call : ByteArray := prog_1_method_9_code
def yX6_call : MethodName := ⟨RX6, "call", "(II)I"⟩
abbrev cX6_feed : ByteArray := prog_1_method_10_code
def yX6_feed : MethodName := ⟨RX6, "feed", "(JI)I"⟩
abbrev cX6_text : ByteArray := prog_1_method_11_code
def yX6_text : MethodName := ⟨RX6, "text", "(I)I"⟩
abbrev cX6_untell : ByteArray := prog_1_method_12_code
def yX6_untell : MethodName := ⟨RX6, "untell", "(I)I"⟩
abbrev cX6_law : ByteArray := prog_1_method_13_code
def yX6_law : MethodName := ⟨RX6, "law", "(IIII)I"⟩
abbrev cX6_days : ByteArray := prog_1_method_14_code
def yX6_days : MethodName := ⟨RX6, "days", "(I)I"⟩
abbrev cX6_loose : ByteArray := prog_1_method_15_code
def yX6_loose : MethodName := ⟨RX6, "loose", "(I)I"⟩
abbrev cX6_seed : ByteArray := prog_1_method_16_code
def yX6_seed : MethodName := ⟨RX6, "seed", "(I)I"⟩
abbrev cX6_nearest : ByteArray := prog_1_method_17_code
def yX6_nearest : MethodName := ⟨RX6, "nearest", "(I)I"⟩
abbrev cX6_then : ByteArray := prog_1_method_18_code
def yX6_then : MethodName := ⟨RX6, "then", "(III)I"⟩
abbrev cX6_settles : ByteArray := prog_1_method_19_code
def yX6_settles : MethodName := ⟨RX6, "settles", "()I"⟩
abbrev cX6_rank : ByteArray := prog_1_method_20_code
def yX6_rank : MethodName := ⟨RX6, "rank", "(I)I"⟩
abbrev cX6_signs : ByteArray := prog_1_method_21_code
def yX6_signs : MethodName := ⟨RX6, "signs", "(IIII)I"⟩
abbrev cX6_heard : ByteArray := prog_1_method_22_code
def yX6_heard : MethodName := ⟨RX6, "heard", "(I)I"⟩
abbrev cX6_odds : ByteArray := prog_1_method_23_code
def yX6_odds : MethodName := ⟨RX6, "odds", "(II)I"⟩
abbrev cX6_began : ByteArray := prog_1_method_24_code
def yX6_began : MethodName := ⟨RX6, "began", "(III)I"⟩
abbrev cX6_fits : ByteArray := prog_1_method_25_code
def yX6_fits : MethodName := ⟨RX6, "fits", "(I)I"⟩
abbrev cX6_voice : ByteArray := prog_1_method_26_code
def yX6_voice : MethodName := ⟨RX6, "voice", "(III)I"⟩
abbrev cX6_body : ByteArray := prog_1_method_27_code
def yX6_body : MethodName := ⟨RX6, "body", "(I)I"⟩
abbrev cX6_sheet : ByteArray := prog_1_method_28_code
def yX6_sheet : MethodName := ⟨RX6, "sheet", "(III)I"⟩
abbrev cX6_put : ByteArray := prog_1_method_29_code
def yX6_put : MethodName := ⟨RX6, "put", "(III)I"⟩
abbrev cX6_move : ByteArray := prog_1_method_30_code
def yX6_move : MethodName := ⟨RX6, "move", "(IIIII)I"⟩
abbrev cX6_nears : ByteArray := prog_1_method_31_code
def yX6_nears : MethodName := ⟨RX6, "nears", "(I)I"⟩
abbrev cX6_judge : ByteArray := prog_1_method_32_code
def yX6_judge : MethodName := ⟨RX6, "judge", "(I)I"⟩
abbrev cX6_image : ByteArray := prog_1_method_33_code
def yX6_image : MethodName := ⟨RX6, "image", "()I"⟩
abbrev cX6_restore : ByteArray := prog_1_method_34_code
def yX6_restore : MethodName := ⟨RX6, "restore", "()I"⟩
abbrev cX6_tell : ByteArray := prog_1_method_35_code
def yX6_tell : MethodName := ⟨RX6, "tell", "(I)I"⟩
abbrev cX6_check : ByteArray := prog_1_method_36_code
def yX6_check : MethodName := ⟨RX6, "check", "()I"⟩
abbrev cX6_count : ByteArray := prog_1_method_37_code
def yX6_count : MethodName := ⟨RX6, "count", "(I)I"⟩
abbrev cX6_told : ByteArray := prog_1_method_38_code
def yX6_told : MethodName := ⟨RX6, "told", "(I)I"⟩
abbrev cX6_error : ByteArray := prog_1_method_39_code
def yX6_error : MethodName := ⟨RX6, "error", "(I)I"⟩
abbrev cX6_isWithin : ByteArray := prog_1_method_40_code
def yX6_isWithin : MethodName := ⟨RX6, "isWithin", "(II)Z"⟩
abbrev cX6_isKind : ByteArray := prog_1_method_41_code
def yX6_isKind : MethodName := ⟨RX6, "isKind", "(I)Z"⟩
abbrev cX6_isNear : ByteArray := prog_1_method_42_code
def yX6_isNear : MethodName := ⟨RX6, "isNear", "(I)Z"⟩
abbrev cX6_isSign : ByteArray := prog_1_method_43_code
def yX6_isSign : MethodName := ⟨RX6, "isSign", "(I)Z"⟩
abbrev cX6_isUse : ByteArray := prog_1_method_44_code
def yX6_isUse : MethodName := ⟨RX6, "isUse", "(I)Z"⟩
abbrev cX6_isSheet : ByteArray := prog_1_method_45_code
def yX6_isSheet : MethodName := ⟨RX6, "isSheet", "(I)Z"⟩
abbrev cX6_isUnder : ByteArray := prog_1_method_46_code
def yX6_isUnder : MethodName := ⟨RX6, "isUnder", "(II)Z"⟩
abbrev cX6_commonDivisor : ByteArray := prog_1_method_47_code
def yX6_commonDivisor : MethodName := ⟨RX6, "commonDivisor", "(II)I"⟩
abbrev cX6_think : ByteArray := prog_1_method_48_code
def yX6_think : MethodName := ⟨RX6, "think", "(I)V"⟩
abbrev cX6_thinkSigned : ByteArray := prog_1_method_49_code
def yX6_thinkSigned : MethodName := ⟨RX6, "thinkSigned", "(II)V"⟩
abbrev cX6_nearIfSigned : ByteArray := prog_1_method_50_code
def yX6_nearIfSigned : MethodName := ⟨RX6, "nearIfSigned", "(II)I"⟩
abbrev cX6_nearestIfSigned : ByteArray := prog_1_method_51_code
def yX6_nearestIfSigned : MethodName := ⟨RX6, "nearestIfSigned", "(I)I"⟩
abbrev cX6_fewestFor : ByteArray := prog_1_method_52_code
def yX6_fewestFor : MethodName := ⟨RX6, "fewestFor", "(I)I"⟩
abbrev cX6_tellsMixed : ByteArray := prog_1_method_53_code
def yX6_tellsMixed : MethodName := ⟨RX6, "tellsMixed", "(LGoingAbout$Sheet;I)Z"⟩
def RX7 : String := "GoingAboutModel"
def TX7 : u_T := fun k => match k with
  | 0 => ("GoingAboutModel", "s", "[I", true)
  | 1 => ("GoingAboutModel", "kept", "[I", true)
  | 2 => ("GoingAboutModel", "laid", "[I", true)
  | 3 => ("GoingAboutModel", "images", "I", false)
  | 4 => ("GoingAboutModel", "errors", "[I", true)
  | 5 => ("GoingAboutModel", "at", "I", false)
  | 6 => ("GoingAboutModel", "open", "I", false)
  | 7 => ("GoingAboutModel", "steps", "I", false)
  | 8 => ("GoingAboutModel", "use", "I", false)
  | 9 => ("GoingAboutModel", "step", "[I", true)
  | 10 => ("GoingAboutModel", "named", "[I", true)
  | 11 => ("GoingAboutModel", "pile", "[I", true)
  | 12 => ("GoingAboutModel", "nearThen", "[I", true)
  | 13 => ("GoingAboutModel", "shownThen", "[I", true)
  | 14 => ("GoingAboutModel", "traced", "I", false)
  | 15 => ("GoingAboutModel", "trace", "[I", true)
  | 16 => ("GoingAboutModel", "speaks", "I", false)
  | 17 => ("GoingAboutModel", "isParted", "Z", false)
  | 18 => ("GoingAboutModel", "bits", "[I", true)
  | 19 => ("GoingAboutModel", "sizes", "[I", true)
  | 20 => ("GoingAboutModel", "number", "[I", true)
  | _ => ("GoingAboutModel", "aside", "[I", true)
def tyX7 : Nat → FieldType := fun k => match k with
  | 0 => .array .int
  | 1 => .array .int
  | 2 => .array .int
  | 3 => .int
  | 4 => .array .int
  | 5 => .int
  | 6 => .int
  | 7 => .int
  | 8 => .int
  | 9 => .array .int
  | 10 => .array .int
  | 11 => .array .int
  | 12 => .array .int
  | 13 => .array .int
  | 14 => .int
  | 15 => .array .int
  | 16 => .int
  | 17 => .boolean
  | 18 => .array .int
  | 19 => .array .int
  | 20 => .array .int
  | _ => .array .int
abbrev wsX70 : List Cond := u_ws RX7 TX7 22
theorem nmX7 : ∀ a, a < 22 → ∀ b, b < 22 → a ≠ b → (TX7 a).2.1 ≠ (TX7 b).2.1 := by decide +kernel
theorem tyX7_ok : ∀ k, k < 22 → parseFieldDescriptor (TX7 k).2.2.1 = some (tyX7 k) := by decide +kernel
abbrev cX7_init : ByteArray := prog_9_method_1_code
def yX7_init : MethodName := ⟨RX7, "<init>", "()V"⟩
abbrev cX7_error : ByteArray := prog_9_method_2_code
def yX7_error : MethodName := ⟨RX7, "error", "(I)I"⟩
abbrev cX7_in : ByteArray := prog_9_method_3_code
def yX7_in : MethodName := ⟨RX7, "in", "(III)Z"⟩
abbrev cX7_held : ByteArray := prog_9_method_4_code
def yX7_held : MethodName := ⟨RX7, "held", "(III)I"⟩
abbrev cX7_copyAll : ByteArray := prog_9_method_5_code
def yX7_copyAll : MethodName := ⟨RX7, "copyAll", "([I[I)V"⟩
abbrev cX7_layDown : ByteArray := prog_9_method_6_code
def yX7_layDown : MethodName := ⟨RX7, "layDown", "()V"⟩
abbrev cX7_layBack : ByteArray := prog_9_method_7_code
def yX7_layBack : MethodName := ⟨RX7, "layBack", "()V"⟩
abbrev cX7_isPerson : ByteArray := prog_9_method_8_code
def yX7_isPerson : MethodName := ⟨RX7, "isPerson", "(I)Z"⟩
abbrev cX7_areTwo : ByteArray := prog_9_method_9_code
def yX7_areTwo : MethodName := ⟨RX7, "areTwo", "(II)Z"⟩
abbrev cX7_its : ByteArray := prog_9_method_10_code
def yX7_its : MethodName := ⟨RX7, "its", "(II)I"⟩
abbrev cX7_lays1 : ByteArray := prog_9_method_11_code
def yX7_lays1 : MethodName := ⟨RX7, "lays1", "(III)V"⟩
abbrev cX7_change1 : ByteArray := prog_9_method_12_code
def yX7_change1 : MethodName := ⟨RX7, "change1", "(II)I"⟩
abbrev cX7_feed : ByteArray := prog_9_method_13_code
def yX7_feed : MethodName := ⟨RX7, "feed", "(JI)I"⟩
abbrev cX7_look : ByteArray := prog_9_method_14_code
def yX7_look : MethodName := ⟨RX7, "look", "()I"⟩
abbrev cX7_isName : ByteArray := prog_9_method_15_code
def yX7_isName : MethodName := ⟨RX7, "isName", "(I)Z"⟩
abbrev cX7_step1 : ByteArray := prog_9_method_16_code
def yX7_step1 : MethodName := ⟨RX7, "step1", "(II)V"⟩
abbrev cX7_whole : ByteArray := prog_9_method_17_code
def yX7_whole : MethodName := ⟨RX7, "whole", "()Z"⟩
abbrev cX7_both : ByteArray := prog_9_method_18_code
def yX7_both : MethodName := ⟨RX7, "both", "()Z"⟩
abbrev cX7_compared : ByteArray := prog_9_method_19_code
def yX7_compared : MethodName := ⟨RX7, "compared", "()Z"⟩
abbrev cX7_sum : ByteArray := prog_9_method_20_code
def yX7_sum : MethodName := ⟨RX7, "sum", "()Z"⟩
abbrev cX7_product : ByteArray := prog_9_method_21_code
def yX7_product : MethodName := ⟨RX7, "product", "()Z"⟩
abbrev cX7_opens : ByteArray := prog_9_method_22_code
def yX7_opens : MethodName := ⟨RX7, "opens", "()Z"⟩
abbrev cX7_one : ByteArray := prog_9_method_23_code
def yX7_one : MethodName := ⟨RX7, "one", "()Z"⟩
abbrev cX7_hasText : ByteArray := prog_9_method_24_code
def yX7_hasText : MethodName := ⟨RX7, "hasText", "(I)Z"⟩
abbrev cX7_text : ByteArray := prog_9_method_25_code
def yX7_text : MethodName := ⟨RX7, "text", "(I)I"⟩
abbrev cX7_untell : ByteArray := prog_9_method_26_code
def yX7_untell : MethodName := ⟨RX7, "untell", "(I)I"⟩
abbrev cX7_joined : ByteArray := prog_9_method_27_code
def yX7_joined : MethodName := ⟨RX7, "joined", "(III)I"⟩
abbrev cX7_worked : ByteArray := prog_9_method_28_code
def yX7_worked : MethodName := ⟨RX7, "worked", "(I)I"⟩
abbrev cX7_readsOf : ByteArray := prog_9_method_29_code
def yX7_readsOf : MethodName := ⟨RX7, "readsOf", "(II)I"⟩
abbrev cX7_tellsOf : ByteArray := prog_9_method_30_code
def yX7_tellsOf : MethodName := ⟨RX7, "tellsOf", "(I)I"⟩
abbrev cX7_takesTold : ByteArray := prog_9_method_31_code
def yX7_takesTold : MethodName := ⟨RX7, "takesTold", "(III)I"⟩
abbrev cX7_signTold : ByteArray := prog_9_method_32_code
def yX7_signTold : MethodName := ⟨RX7, "signTold", "(III)I"⟩
abbrev cX7_takes : ByteArray := prog_9_method_33_code
def yX7_takes : MethodName := ⟨RX7, "takes", "(II)I"⟩
abbrev cX7_signOf : ByteArray := prog_9_method_34_code
def yX7_signOf : MethodName := ⟨RX7, "signOf", "(I)I"⟩
abbrev cX7_findThen : ByteArray := prog_9_method_35_code
def yX7_findThen : MethodName := ⟨RX7, "findThen", "()V"⟩
abbrev cX7_aDay : ByteArray := prog_9_method_36_code
def yX7_aDay : MethodName := ⟨RX7, "aDay", "()V"⟩
abbrev cX7_goes : ByteArray := prog_9_method_37_code
def yX7_goes : MethodName := ⟨RX7, "goes", "(I)V"⟩
abbrev cX7_nearestNow : ByteArray := prog_9_method_38_code
def yX7_nearestNow : MethodName := ⟨RX7, "nearestNow", "()I"⟩
abbrev cX7_calls : ByteArray := prog_9_method_39_code
def yX7_calls : MethodName := ⟨RX7, "calls", "(II)I"⟩
abbrev cX7_draw : ByteArray := prog_9_method_40_code
def yX7_draw : MethodName := ⟨RX7, "draw", "()I"⟩
abbrev cX7_isKind : ByteArray := prog_9_method_41_code
def yX7_isKind : MethodName := ⟨RX7, "isKind", "(I)Z"⟩
abbrev cX7_person : ByteArray := prog_9_method_42_code
def yX7_person : MethodName := ⟨RX7, "person", "(III)I"⟩
abbrev cX7_personIs : ByteArray := prog_9_method_43_code
def yX7_personIs : MethodName := ⟨RX7, "personIs", "(II)I"⟩
abbrev cX7_become : ByteArray := prog_9_method_44_code
def yX7_become : MethodName := ⟨RX7, "become", "(II)I"⟩
abbrev cX7_as : ByteArray := prog_9_method_45_code
def yX7_as : MethodName := ⟨RX7, "as", "(II)I"⟩
abbrev cX7_shows : ByteArray := prog_9_method_46_code
def yX7_shows : MethodName := ⟨RX7, "shows", "(II)I"⟩
abbrev cX7_seems : ByteArray := prog_9_method_47_code
def yX7_seems : MethodName := ⟨RX7, "seems", "(II)I"⟩
abbrev cX7_taken : ByteArray := prog_9_method_48_code
def yX7_taken : MethodName := ⟨RX7, "taken", "(II)I"⟩
abbrev cX7_call : ByteArray := prog_9_method_49_code
def yX7_call : MethodName := ⟨RX7, "call", "(II)I"⟩
abbrev cX7_law : ByteArray := prog_9_method_50_code
def yX7_law : MethodName := ⟨RX7, "law", "(IIII)I"⟩
abbrev cX7_whyNot : ByteArray := prog_9_method_51_code
def yX7_whyNot : MethodName := ⟨RX7, "whyNot", "(II)I"⟩
abbrev cX7_days : ByteArray := prog_9_method_52_code
def yX7_days : MethodName := ⟨RX7, "days", "(I)I"⟩
abbrev cX7_errands : ByteArray := prog_9_method_53_code
def yX7_errands : MethodName := ⟨RX7, "errands", "()V"⟩
abbrev cX7_loose : ByteArray := prog_9_method_54_code
def yX7_loose : MethodName := ⟨RX7, "loose", "(I)I"⟩
abbrev cX7_seed : ByteArray := prog_9_method_55_code
def yX7_seed : MethodName := ⟨RX7, "seed", "(I)I"⟩
abbrev cX7_nearest : ByteArray := prog_9_method_56_code
def yX7_nearest : MethodName := ⟨RX7, "nearest", "(I)I"⟩
abbrev cX7_then : ByteArray := prog_9_method_57_code
def yX7_then : MethodName := ⟨RX7, "then", "(III)I"⟩
abbrev cX7_isSettled : ByteArray := prog_9_method_58_code
def yX7_isSettled : MethodName := ⟨RX7, "isSettled", "()Z"⟩
abbrev cX7_settles : ByteArray := prog_9_method_59_code
def yX7_settles : MethodName := ⟨RX7, "settles", "()I"⟩
abbrev cX7_rank : ByteArray := prog_9_method_60_code
def yX7_rank : MethodName := ⟨RX7, "rank", "(I)I"⟩
abbrev cX7_manyIn : ByteArray := prog_9_method_61_code
def yX7_manyIn : MethodName := ⟨RX7, "manyIn", "(I)I"⟩
abbrev cX7_doesLead : ByteArray := prog_9_method_62_code
def yX7_doesLead : MethodName := ⟨RX7, "doesLead", "(IIII)Z"⟩
abbrev cX7_signs : ByteArray := prog_9_method_63_code
def yX7_signs : MethodName := ⟨RX7, "signs", "(IIII)I"⟩
abbrev cX7_heard : ByteArray := prog_9_method_64_code
def yX7_heard : MethodName := ⟨RX7, "heard", "(I)I"⟩
abbrev cX7_divisor : ByteArray := prog_9_method_65_code
def yX7_divisor : MethodName := ⟨RX7, "divisor", "(II)I"⟩
abbrev cX7_odds : ByteArray := prog_9_method_66_code
def yX7_odds : MethodName := ⟨RX7, "odds", "(II)I"⟩
abbrev cX7_areNearSo : ByteArray := prog_9_method_67_code
def yX7_areNearSo : MethodName := ⟨RX7, "areNearSo", "(I)Z"⟩
abbrev cX7_isSoBy : ByteArray := prog_9_method_68_code
def yX7_isSoBy : MethodName := ⟨RX7, "isSoBy", "(IIII)Z"⟩
abbrev cX7_began : ByteArray := prog_9_method_69_code
def yX7_began : MethodName := ⟨RX7, "began", "(III)I"⟩
abbrev cX7_fits : ByteArray := prog_9_method_70_code
def yX7_fits : MethodName := ⟨RX7, "fits", "(I)I"⟩
abbrev cX7_starts : ByteArray := prog_9_method_71_code
def yX7_starts : MethodName := ⟨RX7, "starts", "(I)V"⟩
abbrev cX7_above : ByteArray := prog_9_method_72_code
def yX7_above : MethodName := ⟨RX7, "above", "(I)I"⟩
abbrev cX7_kindNow : ByteArray := prog_9_method_73_code
def yX7_kindNow : MethodName := ⟨RX7, "kindNow", "()I"⟩
abbrev cX7_mNow : ByteArray := prog_9_method_74_code
def yX7_mNow : MethodName := ⟨RX7, "mNow", "()I"⟩
abbrev cX7_sighsAs : ByteArray := prog_9_method_75_code
def yX7_sighsAs : MethodName := ⟨RX7, "sighsAs", "(II)I"⟩
abbrev cX7_stirsAs : ByteArray := prog_9_method_76_code
def yX7_stirsAs : MethodName := ⟨RX7, "stirsAs", "(II)I"⟩
abbrev cX7_callsAs : ByteArray := prog_9_method_77_code
def yX7_callsAs : MethodName := ⟨RX7, "callsAs", "(II)I"⟩
abbrev cX7_partsAs : ByteArray := prog_9_method_78_code
def yX7_partsAs : MethodName := ⟨RX7, "partsAs", "(II)I"⟩
abbrev cX7_voice : ByteArray := prog_9_method_79_code
def yX7_voice : MethodName := ⟨RX7, "voice", "(III)I"⟩
abbrev cX7_body : ByteArray := prog_9_method_80_code
def yX7_body : MethodName := ⟨RX7, "body", "(I)I"⟩
abbrev cX7_isSheet : ByteArray := prog_9_method_81_code
def yX7_isSheet : MethodName := ⟨RX7, "isSheet", "(I)Z"⟩
abbrev cX7_sheet : ByteArray := prog_9_method_82_code
def yX7_sheet : MethodName := ⟨RX7, "sheet", "(III)I"⟩
abbrev cX7_put : ByteArray := prog_9_method_83_code
def yX7_put : MethodName := ⟨RX7, "put", "(III)I"⟩
abbrev cX7_move : ByteArray := prog_9_method_84_code
def yX7_move : MethodName := ⟨RX7, "move", "(IIIII)I"⟩
abbrev cX7_lacks : ByteArray := prog_9_method_85_code
def yX7_lacks : MethodName := ⟨RX7, "lacks", "(I)I"⟩
abbrev cX7_nears : ByteArray := prog_9_method_86_code
def yX7_nears : MethodName := ⟨RX7, "nears", "(I)I"⟩
abbrev cX7_judge : ByteArray := prog_9_method_87_code
def yX7_judge : MethodName := ⟨RX7, "judge", "(I)I"⟩
abbrev cX7_image : ByteArray := prog_9_method_88_code
def yX7_image : MethodName := ⟨RX7, "image", "()I"⟩
abbrev cX7_restore : ByteArray := prog_9_method_89_code
def yX7_restore : MethodName := ⟨RX7, "restore", "()I"⟩
abbrev cX7_tell : ByteArray := prog_9_method_90_code
def yX7_tell : MethodName := ⟨RX7, "tell", "(I)I"⟩
abbrev cX7_check : ByteArray := prog_9_method_91_code
def yX7_check : MethodName := ⟨RX7, "check", "()I"⟩
abbrev cX7_count : ByteArray := prog_9_method_92_code
def yX7_count : MethodName := ⟨RX7, "count", "(I)I"⟩
abbrev cX7_told : ByteArray := prog_9_method_93_code
def yX7_told : MethodName := ⟨RX7, "told", "(I)I"⟩
def RJ11 : String := "java/lang/Character"
def TJ11 : u_T := fun k => match k with
  | _ => ("", "", "", false)
def tyJ11 : Nat → FieldType := fun k => match k with
  | _ => .int
abbrev wsJ110 : List Cond := u_ws RJ11 TJ11 0
theorem nmJ11 : ∀ a, a < 0 → ∀ b, b < 0 → a ≠ b → (TJ11 a).2.1 ≠ (TJ11 b).2.1 := by decide +kernel
theorem tyJ11_ok : ∀ k, k < 0 → parseFieldDescriptor (TJ11 k).2.2.1 = some (tyJ11 k) := by decide +kernel
abbrev cJ11_isValidCodePoint_9a6ad : ByteArray := prog_10_method_11_code
def yJ11_isValidCodePoint_9a6ad : MethodName := ⟨RJ11, "isValidCodePoint", "(I)Z"⟩
abbrev cJ11_highSurrogate_5068e : ByteArray := prog_10_method_28_code
def yJ11_highSurrogate_5068e : MethodName := ⟨RJ11, "highSurrogate", "(I)C"⟩
abbrev cJ11_lowSurrogate_5068e : ByteArray := prog_10_method_29_code
def yJ11_lowSurrogate_5068e : MethodName := ⟨RJ11, "lowSurrogate", "(I)C"⟩
def RJ6 : String := "java/lang/Integer"
def TJ6 : u_T := fun k => match k with
  | _ => ("", "", "", false)
def tyJ6 : Nat → FieldType := fun k => match k with
  | _ => .int
abbrev wsJ60 : List Cond := u_ws RJ6 TJ6 0
theorem nmJ6 : ∀ a, a < 0 → ∀ b, b < 0 → a ≠ b → (TJ6 a).2.1 ≠ (TJ6 b).2.1 := by decide +kernel
theorem tyJ6_ok : ∀ k, k < 0 → parseFieldDescriptor (TJ6 k).2.2.1 = some (tyJ6 k) := by decide +kernel
abbrev cJ6_bitCount_0f7a4 : ByteArray := prog_11_method_49_code
def yJ6_bitCount_0f7a4 : MethodName := ⟨RJ6, "bitCount", "(I)I"⟩
def RJ9 : String := "java/lang/Math"
def TJ9 : u_T := fun k => match k with
  | _ => ("", "", "", false)
def tyJ9 : Nat → FieldType := fun k => match k with
  | _ => .int
abbrev wsJ90 : List Cond := u_ws RJ9 TJ9 0
theorem nmJ9 : ∀ a, a < 0 → ∀ b, b < 0 → a ≠ b → (TJ9 a).2.1 ≠ (TJ9 b).2.1 := by decide +kernel
theorem tyJ9_ok : ∀ k, k < 0 → parseFieldDescriptor (TJ9 k).2.2.1 = some (tyJ9 k) := by decide +kernel
abbrev cJ9_max_7cf53 : ByteArray := prog_12_method_65_code
def yJ9_max_7cf53 : MethodName := ⟨RJ9, "max", "(II)I"⟩
abbrev cJ9_min_7cf53 : ByteArray := prog_12_method_69_code
def yJ9_min_7cf53 : MethodName := ⟨RJ9, "min", "(II)I"⟩
def RJ0 : String := "java/lang/String"
def TJ0 : u_T := fun k => match k with
  | _ => ("", "", "", false)
def tyJ0 : Nat → FieldType := fun k => match k with
  | _ => .int
abbrev wsJ00 : List Cond := u_ws RJ0 TJ0 0
theorem nmJ0 : ∀ a, a < 0 → ∀ b, b < 0 → a ≠ b → (TJ0 a).2.1 ≠ (TJ0 b).2.1 := by decide +kernel
theorem tyJ0_ok : ∀ k, k < 0 → parseFieldDescriptor (TJ0 k).2.2.1 = some (tyJ0 k) := by decide +kernel
abbrev cJ0_length_8abf5 : ByteArray := prog_13_method_54_code
def yJ0_length_8abf5 : MethodName := ⟨RJ0, "length", "()I"⟩
abbrev cJ0_indexOf_0f7a4 : ByteArray := prog_13_method_79_code
def yJ0_indexOf_0f7a4 : MethodName := ⟨RJ0, "indexOf", "(I)I"⟩
abbrev cJ0_indexOf_7cf53 : ByteArray := prog_13_method_80_code
def yJ0_indexOf_7cf53 : MethodName := ⟨RJ0, "indexOf", "(II)I"⟩
abbrev cJ0_coder_7d493 : ByteArray := prog_13_method_152_code
def yJ0_coder_7d493 : MethodName := ⟨RJ0, "coder", "()B"⟩
abbrev cJ0_isLatin1_aae02 : ByteArray := prog_13_method_154_code
def yJ0_isLatin1_aae02 : MethodName := ⟨RJ0, "isLatin1", "()Z"⟩
abbrev cJ0_checkBoundsBeginEnd_23922 : ByteArray := prog_13_method_158_code
def yJ0_checkBoundsBeginEnd_23922 : MethodName := ⟨RJ0, "checkBoundsBeginEnd", "(III)V"⟩
def RJ1 : String := "java/lang/StringLatin1"
def TJ1 : u_T := fun k => match k with
  | _ => ("", "", "", false)
def tyJ1 : Nat → FieldType := fun k => match k with
  | _ => .int
abbrev wsJ10 : List Cond := u_ws RJ1 TJ1 0
theorem nmJ1 : ∀ a, a < 0 → ∀ b, b < 0 → a ≠ b → (TJ1 a).2.1 ≠ (TJ1 b).2.1 := by decide +kernel
theorem tyJ1_ok : ∀ k, k < 0 → parseFieldDescriptor (TJ1 k).2.2.1 = some (tyJ1 k) := by decide +kernel
abbrev cJ1_canEncode_9a6ad : ByteArray := prog_14_method_4_code
def yJ1_canEncode_9a6ad : MethodName := ⟨RJ1, "canEncode", "(I)Z"⟩
abbrev cJ1_indexOf_4cfef : ByteArray := prog_14_method_22_code
def yJ1_indexOf_4cfef : MethodName := ⟨RJ1, "indexOf", "([BIII)I"⟩
abbrev cJ1_indexOfChar_4cfef : ByteArray := prog_14_method_23_code
def yJ1_indexOfChar_4cfef : MethodName := ⟨RJ1, "indexOfChar", "([BIII)I"⟩
def RJ2 : String := "java/lang/StringUTF16"
def TJ2 : u_T := fun k => match k with
  | _ => ("", "", "", false)
def tyJ2 : Nat → FieldType := fun k => match k with
  | _ => .int
abbrev wsJ20 : List Cond := u_ws RJ2 TJ2 0
theorem nmJ2 : ∀ a, a < 0 → ∀ b, b < 0 → a ≠ b → (TJ2 a).2.1 ≠ (TJ2 b).2.1 := by decide +kernel
theorem tyJ2_ok : ∀ k, k < 0 → parseFieldDescriptor (TJ2 k).2.2.1 = some (tyJ2 k) := by decide +kernel
abbrev cJ2_getChar_3b067 : ByteArray := prog_15_method_5_code
def yJ2_getChar_3b067 : MethodName := ⟨RJ2, "getChar", "([BI)C"⟩
abbrev cJ2_length_9d52b : ByteArray := prog_15_method_6_code
def yJ2_length_9d52b : MethodName := ⟨RJ2, "length", "([B)I"⟩
abbrev cJ2_indexOf_4cfef : ByteArray := prog_15_method_40_code
def yJ2_indexOf_4cfef : MethodName := ⟨RJ2, "indexOf", "([BIII)I"⟩
abbrev cJ2_indexOfChar_4cfef : ByteArray := prog_15_method_47_code
def yJ2_indexOfChar_4cfef : MethodName := ⟨RJ2, "indexOfChar", "([BIII)I"⟩
abbrev cJ2_indexOfCharUnsafe_4cfef : ByteArray := prog_15_method_48_code
def yJ2_indexOfCharUnsafe_4cfef : MethodName := ⟨RJ2, "indexOfCharUnsafe", "([BIII)I"⟩
abbrev cJ2_indexOfSupplementary_4cfef : ByteArray := prog_15_method_49_code
def yJ2_indexOfSupplementary_4cfef : MethodName := ⟨RJ2, "indexOfSupplementary", "([BIII)I"⟩
abbrev cJ2_checkBoundsBeginEnd_d044e : ByteArray := prog_15_method_93_code
def yJ2_checkBoundsBeginEnd_d044e : MethodName := ⟨RJ2, "checkBoundsBeginEnd", "(II[B)V"⟩
def RJ10 : String := "java/lang/System"
def TJ10 : u_T := fun k => match k with
  | _ => ("", "", "", false)
def tyJ10 : Nat → FieldType := fun k => match k with
  | _ => .int
abbrev wsJ100 : List Cond := u_ws RJ10 TJ10 0
theorem nmJ10 : ∀ a, a < 0 → ∀ b, b < 0 → a ≠ b → (TJ10 a).2.1 ≠ (TJ10 b).2.1 := by decide +kernel
theorem tyJ10_ok : ∀ k, k < 0 → parseFieldDescriptor (TJ10 k).2.2.1 = some (tyJ10 k) := by decide +kernel
def RJ3 : String := "jdk/internal/util/Preconditions"
def TJ3 : u_T := fun k => match k with
  | _ => ("", "", "", false)
def tyJ3 : Nat → FieldType := fun k => match k with
  | _ => .int
abbrev wsJ30 : List Cond := u_ws RJ3 TJ3 0
theorem nmJ3 : ∀ a, a < 0 → ∀ b, b < 0 → a ≠ b → (TJ3 a).2.1 ≠ (TJ3 b).2.1 := by decide +kernel
theorem tyJ3_ok : ∀ k, k < 0 → parseFieldDescriptor (TJ3 k).2.2.1 = some (tyJ3 k) := by decide +kernel
abbrev cJ3_checkFromToIndex_8c36e : ByteArray := prog_17_method_12_code
def yJ3_checkFromToIndex_8c36e : MethodName := ⟨RJ3, "checkFromToIndex", "(IIILjava/util/function/BiFunction;)I"⟩
def RL : String := "GoingAboutLaw"
abbrev cL_law : ByteArray := code
def yL_law : MethodName := ⟨RL, "law", "([I)Z"⟩
abbrev vwCl : List vw_C := [(RX0, TX0, 4), (RX1, TX1, 6), (RX2, TX2, 3), (RX3, TX3, 3), (RX4, TX4, 12), (RX5, TX5, 6), (RX6, TX6, 9), (RX7, TX7, 22)]
end
section
theorem dX0_init_0 : decode cX0_init 0 = .ok (.aload_n 0, 1) := by decide +kernel
theorem dX0_init_1 : decode cX0_init 1 = .ok (.invokespecial 3, 3) := by decide +kernel
theorem dX0_init_4 : decode cX0_init 4 = .ok (.aload_n 0, 1) := by decide +kernel
theorem dX0_init_5 : decode cX0_init 5 = .ok (.bipush 60, 2) := by decide +kernel
theorem dX0_init_7 : decode cX0_init 7 = .ok (.newarray .int, 2) := by decide +kernel
theorem dX0_init_9 : decode cX0_init 9 = .ok (.putfield 9, 3) := by decide +kernel
theorem dX0_init_12 : decode cX0_init 12 = .ok (.aload_n 0, 1) := by decide +kernel
theorem dX0_init_13 : decode cX0_init 13 = .ok (.bipush 60, 2) := by decide +kernel
theorem dX0_init_15 : decode cX0_init 15 = .ok (.newarray .int, 2) := by decide +kernel
theorem dX0_init_17 : decode cX0_init 17 = .ok (.putfield 15, 3) := by decide +kernel
theorem dX0_init_20 : decode cX0_init 20 = .ok (.aload_n 0, 1) := by decide +kernel
theorem dX0_init_21 : decode cX0_init 21 = .ok (.iload_n 1, 1) := by decide +kernel
theorem dX0_init_22 : decode cX0_init 22 = .ok (.putfield 18, 3) := by decide +kernel
theorem dX0_init_25 : decode cX0_init 25 = .ok (.return_, 1) := by decide +kernel
theorem dX0_copy_0 : decode cX0_copy 0 = .ok (.aload_n 0, 1) := by decide +kernel
theorem dX0_copy_1 : decode cX0_copy 1 = .ok (.iconst 0, 1) := by decide +kernel
theorem dX0_copy_2 : decode cX0_copy 2 = .ok (.iload_n 2, 1) := by decide +kernel
theorem dX0_copy_3 : decode cX0_copy 3 = .ok (.aload_n 1, 1) := by decide +kernel
theorem dX0_copy_4 : decode cX0_copy 4 = .ok (.arraylength, 1) := by decide +kernel
theorem dX0_copy_5 : decode cX0_copy 5 = .ok (.bipush 60, 2) := by decide +kernel
theorem dX0_copy_7 : decode cX0_copy 7 = .ok (.invokestatic 22, 3) := by decide +kernel
theorem dX0_copy_10 : decode cX0_copy 10 = .ok (.invokestatic 22, 3) := by decide +kernel
theorem dX0_copy_13 : decode cX0_copy 13 = .ok (.invokestatic 28, 3) := by decide +kernel
theorem dX0_copy_16 : decode cX0_copy 16 = .ok (.putfield 31, 3) := by decide +kernel
theorem dX0_copy_19 : decode cX0_copy 19 = .ok (.aload_n 1, 1) := by decide +kernel
theorem dX0_copy_20 : decode cX0_copy 20 = .ok (.iconst 0, 1) := by decide +kernel
theorem dX0_copy_21 : decode cX0_copy 21 = .ok (.aload_n 0, 1) := by decide +kernel
theorem dX0_copy_22 : decode cX0_copy 22 = .ok (.getfield 9, 3) := by decide +kernel
theorem dX0_copy_25 : decode cX0_copy 25 = .ok (.iconst 0, 1) := by decide +kernel
theorem dX0_copy_26 : decode cX0_copy 26 = .ok (.aload_n 0, 1) := by decide +kernel
theorem dX0_copy_27 : decode cX0_copy 27 = .ok (.getfield 31, 3) := by decide +kernel
theorem dX0_copy_30 : decode cX0_copy 30 = .ok (.invokestatic 34, 3) := by decide +kernel
theorem dX0_copy_33 : decode cX0_copy 33 = .ok (.return_, 1) := by decide +kernel
theorem dX0_gives_0 : decode cX0_gives 0 = .ok (.iconst 0, 1) := by decide +kernel
theorem dX0_gives_1 : decode cX0_gives 1 = .ok (.istore 4, 2) := by decide +kernel
theorem dX0_gives_3 : decode cX0_gives 3 = .ok (.aload_n 0, 1) := by decide +kernel
theorem dX0_gives_4 : decode cX0_gives 4 = .ok (.getfield 15, 3) := by decide +kernel
theorem dX0_gives_7 : decode cX0_gives 7 = .ok (.iconst 0, 1) := by decide +kernel
theorem dX0_gives_8 : decode cX0_gives 8 = .ok (.iload_n 1, 1) := by decide +kernel
theorem dX0_gives_9 : decode cX0_gives 9 = .ok (.iastore, 1) := by decide +kernel
theorem dX0_gives_10 : decode cX0_gives 10 = .ok (.iconst 0, 1) := by decide +kernel
theorem dX0_gives_11 : decode cX0_gives 11 = .ok (.istore 5, 2) := by decide +kernel
theorem dX0_gives_13 : decode cX0_gives 13 = .ok (.iload 5, 2) := by decide +kernel
theorem dX0_gives_15 : decode cX0_gives 15 = .ok (.aload_n 0, 1) := by decide +kernel
theorem dX0_gives_16 : decode cX0_gives 16 = .ok (.getfield 31, 3) := by decide +kernel
theorem dX0_gives_19 : decode cX0_gives 19 = .ok (.if_icmp .ge 151, 3) := by decide +kernel
theorem dX0_gives_22 : decode cX0_gives 22 = .ok (.aload_n 0, 1) := by decide +kernel
theorem dX0_gives_23 : decode cX0_gives 23 = .ok (.getfield 9, 3) := by decide +kernel
theorem dX0_gives_26 : decode cX0_gives 26 = .ok (.iload 5, 2) := by decide +kernel
theorem dX0_gives_28 : decode cX0_gives 28 = .ok (.iaload, 1) := by decide +kernel
theorem dX0_gives_29 : decode cX0_gives 29 = .ok (.istore 6, 2) := by decide +kernel
theorem dX0_gives_31 : decode cX0_gives 31 = .ok (.iload 6, 2) := by decide +kernel
theorem dX0_gives_33 : decode cX0_gives 33 = .ok (.bipush (-3), 2) := by decide +kernel
theorem dX0_gives_35 : decode cX0_gives 35 = .ok (.if_icmp .lt 43, 3) := by decide +kernel
theorem dX0_gives_38 : decode cX0_gives 38 = .ok (.iload 4, 2) := by decide +kernel
theorem dX0_gives_40 : decode cX0_gives 40 = .ok (.bipush 60, 2) := by decide +kernel
theorem dX0_gives_42 : decode cX0_gives 42 = .ok (.if_icmp .lt 5, 3) := by decide +kernel
theorem dX0_gives_45 : decode cX0_gives 45 = .ok (.iconst 0, 1) := by decide +kernel
theorem dX0_gives_46 : decode cX0_gives 46 = .ok (.ireturn, 1) := by decide +kernel
theorem dX0_gives_47 : decode cX0_gives 47 = .ok (.aload_n 0, 1) := by decide +kernel
theorem dX0_gives_48 : decode cX0_gives 48 = .ok (.getfield 15, 3) := by decide +kernel
theorem dX0_gives_51 : decode cX0_gives 51 = .ok (.iload 4, 2) := by decide +kernel
theorem dX0_gives_53 : decode cX0_gives 53 = .ok (.iload 6, 2) := by decide +kernel
theorem dX0_gives_55 : decode cX0_gives 55 = .ok (.ifCond .lt 8, 3) := by decide +kernel
theorem dX0_gives_58 : decode cX0_gives 58 = .ok (.iload 6, 2) := by decide +kernel
theorem dX0_gives_60 : decode cX0_gives 60 = .ok (.goto 11, 3) := by decide +kernel
theorem dX0_gives_63 : decode cX0_gives 63 = .ok (.iload 6, 2) := by decide +kernel
theorem dX0_gives_65 : decode cX0_gives 65 = .ok (.iload_n 1, 1) := by decide +kernel
theorem dX0_gives_66 : decode cX0_gives 66 = .ok (.iload_n 2, 1) := by decide +kernel
theorem dX0_gives_67 : decode cX0_gives 67 = .ok (.iload_n 3, 1) := by decide +kernel
theorem dX0_gives_68 : decode cX0_gives 68 = .ok (.invokestatic 40, 3) := by decide +kernel
theorem dX0_gives_71 : decode cX0_gives 71 = .ok (.iastore, 1) := by decide +kernel
theorem dX0_gives_72 : decode cX0_gives 72 = .ok (.iinc 4 1, 3) := by decide +kernel
theorem dX0_gives_75 : decode cX0_gives 75 = .ok (.goto 89, 3) := by decide +kernel
theorem dX0_gives_78 : decode cX0_gives 78 = .ok (.iload 6, 2) := by decide +kernel
theorem dX0_gives_80 : decode cX0_gives 80 = .ok (.bipush (-33), 2) := by decide +kernel
theorem dX0_gives_82 : decode cX0_gives 82 = .ok (.if_icmp .ne 40, 3) := by decide +kernel
theorem dX0_gives_85 : decode cX0_gives 85 = .ok (.iload 4, 2) := by decide +kernel
theorem dX0_gives_87 : decode cX0_gives 87 = .ok (.iconst 1, 1) := by decide +kernel
theorem dX0_gives_88 : decode cX0_gives 88 = .ok (.if_icmp .ge 5, 3) := by decide +kernel
theorem dX0_gives_91 : decode cX0_gives 91 = .ok (.iconst 0, 1) := by decide +kernel
theorem dX0_gives_92 : decode cX0_gives 92 = .ok (.ireturn, 1) := by decide +kernel
theorem dX0_gives_93 : decode cX0_gives 93 = .ok (.aload_n 0, 1) := by decide +kernel
theorem dX0_gives_94 : decode cX0_gives 94 = .ok (.getfield 15, 3) := by decide +kernel
theorem dX0_gives_97 : decode cX0_gives 97 = .ok (.iload 4, 2) := by decide +kernel
theorem dX0_gives_99 : decode cX0_gives 99 = .ok (.iconst 1, 1) := by decide +kernel
theorem dX0_gives_100 : decode cX0_gives 100 = .ok (.isub, 1) := by decide +kernel
theorem dX0_gives_101 : decode cX0_gives 101 = .ok (.aload_n 0, 1) := by decide +kernel
theorem dX0_gives_102 : decode cX0_gives 102 = .ok (.getfield 15, 3) := by decide +kernel
theorem dX0_gives_105 : decode cX0_gives 105 = .ok (.iload 4, 2) := by decide +kernel
theorem dX0_gives_107 : decode cX0_gives 107 = .ok (.iconst 1, 1) := by decide +kernel
theorem dX0_gives_108 : decode cX0_gives 108 = .ok (.isub, 1) := by decide +kernel
theorem dX0_gives_109 : decode cX0_gives 109 = .ok (.iaload, 1) := by decide +kernel
theorem dX0_gives_110 : decode cX0_gives 110 = .ok (.ifCond .ne 7, 3) := by decide +kernel
theorem dX0_gives_113 : decode cX0_gives 113 = .ok (.iconst 1, 1) := by decide +kernel
theorem dX0_gives_114 : decode cX0_gives 114 = .ok (.goto 4, 3) := by decide +kernel
theorem dX0_gives_117 : decode cX0_gives 117 = .ok (.iconst 0, 1) := by decide +kernel
theorem dX0_gives_118 : decode cX0_gives 118 = .ok (.iastore, 1) := by decide +kernel
theorem dX0_gives_119 : decode cX0_gives 119 = .ok (.goto 45, 3) := by decide +kernel
theorem dX0_gives_122 : decode cX0_gives 122 = .ok (.iload 4, 2) := by decide +kernel
theorem dX0_gives_124 : decode cX0_gives 124 = .ok (.iconst 2, 1) := by decide +kernel
theorem dX0_gives_125 : decode cX0_gives 125 = .ok (.if_icmp .ge 5, 3) := by decide +kernel
theorem dX0_gives_128 : decode cX0_gives 128 = .ok (.iconst 0, 1) := by decide +kernel
theorem dX0_gives_129 : decode cX0_gives 129 = .ok (.ireturn, 1) := by decide +kernel
theorem dX0_gives_130 : decode cX0_gives 130 = .ok (.iinc 4 (-1), 3) := by decide +kernel
theorem dX0_gives_133 : decode cX0_gives 133 = .ok (.aload_n 0, 1) := by decide +kernel
theorem dX0_gives_134 : decode cX0_gives 134 = .ok (.getfield 15, 3) := by decide +kernel
theorem dX0_gives_137 : decode cX0_gives 137 = .ok (.iload 4, 2) := by decide +kernel
theorem dX0_gives_139 : decode cX0_gives 139 = .ok (.iconst 1, 1) := by decide +kernel
theorem dX0_gives_140 : decode cX0_gives 140 = .ok (.isub, 1) := by decide +kernel
theorem dX0_gives_141 : decode cX0_gives 141 = .ok (.iload 6, 2) := by decide +kernel
theorem dX0_gives_143 : decode cX0_gives 143 = .ok (.ineg, 1) := by decide +kernel
theorem dX0_gives_144 : decode cX0_gives 144 = .ok (.aload_n 0, 1) := by decide +kernel
theorem dX0_gives_145 : decode cX0_gives 145 = .ok (.getfield 15, 3) := by decide +kernel
theorem dX0_gives_148 : decode cX0_gives 148 = .ok (.iload 4, 2) := by decide +kernel
theorem dX0_gives_150 : decode cX0_gives 150 = .ok (.iconst 1, 1) := by decide +kernel
theorem dX0_gives_151 : decode cX0_gives 151 = .ok (.isub, 1) := by decide +kernel
theorem dX0_gives_152 : decode cX0_gives 152 = .ok (.iaload, 1) := by decide +kernel
theorem dX0_gives_153 : decode cX0_gives 153 = .ok (.aload_n 0, 1) := by decide +kernel
theorem dX0_gives_154 : decode cX0_gives 154 = .ok (.getfield 15, 3) := by decide +kernel
theorem dX0_gives_157 : decode cX0_gives 157 = .ok (.iload 4, 2) := by decide +kernel
theorem dX0_gives_159 : decode cX0_gives 159 = .ok (.iaload, 1) := by decide +kernel
theorem dX0_gives_160 : decode cX0_gives 160 = .ok (.invokestatic 44, 3) := by decide +kernel
theorem dX0_gives_163 : decode cX0_gives 163 = .ok (.iastore, 1) := by decide +kernel
theorem dX0_gives_164 : decode cX0_gives 164 = .ok (.iinc 5 1, 3) := by decide +kernel
theorem dX0_gives_167 : decode cX0_gives 167 = .ok (.goto (-154), 3) := by decide +kernel
theorem dX0_gives_170 : decode cX0_gives 170 = .ok (.iconst 0, 1) := by decide +kernel
theorem dX0_gives_171 : decode cX0_gives 171 = .ok (.aload_n 0, 1) := by decide +kernel
theorem dX0_gives_172 : decode cX0_gives 172 = .ok (.getfield 18, 3) := by decide +kernel
theorem dX0_gives_175 : decode cX0_gives 175 = .ok (.aload_n 0, 1) := by decide +kernel
theorem dX0_gives_176 : decode cX0_gives 176 = .ok (.getfield 15, 3) := by decide +kernel
theorem dX0_gives_179 : decode cX0_gives 179 = .ok (.iconst 0, 1) := by decide +kernel
theorem dX0_gives_180 : decode cX0_gives 180 = .ok (.iaload, 1) := by decide +kernel
theorem dX0_gives_181 : decode cX0_gives 181 = .ok (.invokestatic 22, 3) := by decide +kernel
theorem dX0_gives_184 : decode cX0_gives 184 = .ok (.invokestatic 28, 3) := by decide +kernel
theorem dX0_gives_187 : decode cX0_gives 187 = .ok (.ireturn, 1) := by decide +kernel
theorem dX0_named_0 : decode cX0_named 0 = .ok (.iload_n 0, 1) := by decide +kernel
theorem dX0_named_1 : decode cX0_named 1 = .ok (.iconst (-1), 1) := by decide +kernel
theorem dX0_named_2 : decode cX0_named 2 = .ok (.if_icmp .ne 5, 3) := by decide +kernel
theorem dX0_named_5 : decode cX0_named 5 = .ok (.iload_n 1, 1) := by decide +kernel
theorem dX0_named_6 : decode cX0_named 6 = .ok (.ireturn, 1) := by decide +kernel
theorem dX0_named_7 : decode cX0_named 7 = .ok (.iload_n 0, 1) := by decide +kernel
theorem dX0_named_8 : decode cX0_named 8 = .ok (.bipush (-2), 2) := by decide +kernel
theorem dX0_named_10 : decode cX0_named 10 = .ok (.if_icmp .ne 7, 3) := by decide +kernel
theorem dX0_named_13 : decode cX0_named 13 = .ok (.iload_n 2, 1) := by decide +kernel
theorem dX0_named_14 : decode cX0_named 14 = .ok (.goto 4, 3) := by decide +kernel
theorem dX0_named_17 : decode cX0_named 17 = .ok (.iload_n 3, 1) := by decide +kernel
theorem dX0_named_18 : decode cX0_named 18 = .ok (.ireturn, 1) := by decide +kernel
theorem dX0_joined_0 : decode cX0_joined 0 = .ok (.iload_n 0, 1) := by decide +kernel
theorem dX0_joined_1 : decode cX0_joined 1 = .ok (.lookupswitch 188 #[(37, 115), (38, 160), (42, 99), (43, 91), (45, 95), (47, 103), (60, 127), (61, 149), (62, 138), (124, 174)], 91) := by decide +kernel
theorem dX0_joined_92 : decode cX0_joined 92 = .ok (.iload_n 1, 1) := by decide +kernel
theorem dX0_joined_93 : decode cX0_joined 93 = .ok (.iload_n 2, 1) := by decide +kernel
theorem dX0_joined_94 : decode cX0_joined 94 = .ok (.iadd, 1) := by decide +kernel
theorem dX0_joined_95 : decode cX0_joined 95 = .ok (.ireturn, 1) := by decide +kernel
theorem dX0_joined_96 : decode cX0_joined 96 = .ok (.iload_n 1, 1) := by decide +kernel
theorem dX0_joined_97 : decode cX0_joined 97 = .ok (.iload_n 2, 1) := by decide +kernel
theorem dX0_joined_98 : decode cX0_joined 98 = .ok (.isub, 1) := by decide +kernel
theorem dX0_joined_99 : decode cX0_joined 99 = .ok (.ireturn, 1) := by decide +kernel
theorem dX0_joined_100 : decode cX0_joined 100 = .ok (.iload_n 1, 1) := by decide +kernel
theorem dX0_joined_101 : decode cX0_joined 101 = .ok (.iload_n 2, 1) := by decide +kernel
theorem dX0_joined_102 : decode cX0_joined 102 = .ok (.imul, 1) := by decide +kernel
theorem dX0_joined_103 : decode cX0_joined 103 = .ok (.ireturn, 1) := by decide +kernel
theorem dX0_joined_104 : decode cX0_joined 104 = .ok (.iload_n 2, 1) := by decide +kernel
theorem dX0_joined_105 : decode cX0_joined 105 = .ok (.ifCond .ne 7, 3) := by decide +kernel
theorem dX0_joined_108 : decode cX0_joined 108 = .ok (.iconst 0, 1) := by decide +kernel
theorem dX0_joined_109 : decode cX0_joined 109 = .ok (.goto 6, 3) := by decide +kernel
theorem dX0_joined_112 : decode cX0_joined 112 = .ok (.iload_n 1, 1) := by decide +kernel
theorem dX0_joined_113 : decode cX0_joined 113 = .ok (.iload_n 2, 1) := by decide +kernel
theorem dX0_joined_114 : decode cX0_joined 114 = .ok (.idiv, 1) := by decide +kernel
theorem dX0_joined_115 : decode cX0_joined 115 = .ok (.ireturn, 1) := by decide +kernel
theorem dX0_joined_116 : decode cX0_joined 116 = .ok (.iload_n 2, 1) := by decide +kernel
theorem dX0_joined_117 : decode cX0_joined 117 = .ok (.ifCond .ne 7, 3) := by decide +kernel
theorem dX0_joined_120 : decode cX0_joined 120 = .ok (.iconst 0, 1) := by decide +kernel
theorem dX0_joined_121 : decode cX0_joined 121 = .ok (.goto 6, 3) := by decide +kernel
theorem dX0_joined_124 : decode cX0_joined 124 = .ok (.iload_n 1, 1) := by decide +kernel
theorem dX0_joined_125 : decode cX0_joined 125 = .ok (.iload_n 2, 1) := by decide +kernel
theorem dX0_joined_126 : decode cX0_joined 126 = .ok (.irem, 1) := by decide +kernel
theorem dX0_joined_127 : decode cX0_joined 127 = .ok (.ireturn, 1) := by decide +kernel
theorem dX0_joined_128 : decode cX0_joined 128 = .ok (.iload_n 1, 1) := by decide +kernel
theorem dX0_joined_129 : decode cX0_joined 129 = .ok (.iload_n 2, 1) := by decide +kernel
theorem dX0_joined_130 : decode cX0_joined 130 = .ok (.if_icmp .ge 7, 3) := by decide +kernel
theorem dX0_joined_133 : decode cX0_joined 133 = .ok (.iconst 1, 1) := by decide +kernel
theorem dX0_joined_134 : decode cX0_joined 134 = .ok (.goto 4, 3) := by decide +kernel
theorem dX0_joined_137 : decode cX0_joined 137 = .ok (.iconst 0, 1) := by decide +kernel
theorem dX0_joined_138 : decode cX0_joined 138 = .ok (.ireturn, 1) := by decide +kernel
theorem dX0_joined_139 : decode cX0_joined 139 = .ok (.iload_n 1, 1) := by decide +kernel
theorem dX0_joined_140 : decode cX0_joined 140 = .ok (.iload_n 2, 1) := by decide +kernel
theorem dX0_joined_141 : decode cX0_joined 141 = .ok (.if_icmp .le 7, 3) := by decide +kernel
theorem dX0_joined_144 : decode cX0_joined 144 = .ok (.iconst 1, 1) := by decide +kernel
theorem dX0_joined_145 : decode cX0_joined 145 = .ok (.goto 4, 3) := by decide +kernel
theorem dX0_joined_148 : decode cX0_joined 148 = .ok (.iconst 0, 1) := by decide +kernel
theorem dX0_joined_149 : decode cX0_joined 149 = .ok (.ireturn, 1) := by decide +kernel
theorem dX0_joined_150 : decode cX0_joined 150 = .ok (.iload_n 1, 1) := by decide +kernel
theorem dX0_joined_151 : decode cX0_joined 151 = .ok (.iload_n 2, 1) := by decide +kernel
theorem dX0_joined_152 : decode cX0_joined 152 = .ok (.if_icmp .ne 7, 3) := by decide +kernel
theorem dX0_joined_155 : decode cX0_joined 155 = .ok (.iconst 1, 1) := by decide +kernel
theorem dX0_joined_156 : decode cX0_joined 156 = .ok (.goto 4, 3) := by decide +kernel
theorem dX0_joined_159 : decode cX0_joined 159 = .ok (.iconst 0, 1) := by decide +kernel
theorem dX0_joined_160 : decode cX0_joined 160 = .ok (.ireturn, 1) := by decide +kernel
theorem dX0_joined_161 : decode cX0_joined 161 = .ok (.iload_n 1, 1) := by decide +kernel
theorem dX0_joined_162 : decode cX0_joined 162 = .ok (.ifCond .eq 11, 3) := by decide +kernel
theorem dX0_joined_165 : decode cX0_joined 165 = .ok (.iload_n 2, 1) := by decide +kernel
theorem dX0_joined_166 : decode cX0_joined 166 = .ok (.ifCond .eq 7, 3) := by decide +kernel
theorem dX0_joined_169 : decode cX0_joined 169 = .ok (.iconst 1, 1) := by decide +kernel
theorem dX0_joined_170 : decode cX0_joined 170 = .ok (.goto 4, 3) := by decide +kernel
theorem dX0_joined_173 : decode cX0_joined 173 = .ok (.iconst 0, 1) := by decide +kernel
theorem dX0_joined_174 : decode cX0_joined 174 = .ok (.ireturn, 1) := by decide +kernel
theorem dX0_joined_175 : decode cX0_joined 175 = .ok (.iload_n 1, 1) := by decide +kernel
theorem dX0_joined_176 : decode cX0_joined 176 = .ok (.ifCond .ne 7, 3) := by decide +kernel
theorem dX0_joined_179 : decode cX0_joined 179 = .ok (.iload_n 2, 1) := by decide +kernel
theorem dX0_joined_180 : decode cX0_joined 180 = .ok (.ifCond .eq 7, 3) := by decide +kernel
theorem dX0_joined_183 : decode cX0_joined 183 = .ok (.iconst 1, 1) := by decide +kernel
theorem dX0_joined_184 : decode cX0_joined 184 = .ok (.goto 4, 3) := by decide +kernel
theorem dX0_joined_187 : decode cX0_joined 187 = .ok (.iconst 0, 1) := by decide +kernel
theorem dX0_joined_188 : decode cX0_joined 188 = .ok (.ireturn, 1) := by decide +kernel
theorem dX0_joined_189 : decode cX0_joined 189 = .ok (.iconst 0, 1) := by decide +kernel
theorem dX0_joined_190 : decode cX0_joined 190 = .ok (.ireturn, 1) := by decide +kernel
theorem dX1_init_0 : decode cX1_init 0 = .ok (.aload_n 0, 1) := by decide +kernel
theorem dX1_init_1 : decode cX1_init 1 = .ok (.invokespecial 3, 3) := by decide +kernel
theorem dX1_init_4 : decode cX1_init 4 = .ok (.aload_n 0, 1) := by decide +kernel
theorem dX1_init_5 : decode cX1_init 5 = .ok (.bipush 60, 2) := by decide +kernel
theorem dX1_init_7 : decode cX1_init 7 = .ok (.newarray .byte, 2) := by decide +kernel
theorem dX1_init_9 : decode cX1_init 9 = .ok (.putfield 9, 3) := by decide +kernel
theorem dX1_init_12 : decode cX1_init 12 = .ok (.aload_n 0, 1) := by decide +kernel
theorem dX1_init_13 : decode cX1_init 13 = .ok (.ldc 15, 2) := by decide +kernel
theorem dX1_init_15 : decode cX1_init 15 = .ok (.putfield 17, 3) := by decide +kernel
theorem dX1_init_18 : decode cX1_init 18 = .ok (.aload_n 0, 1) := by decide +kernel
theorem dX1_init_19 : decode cX1_init 19 = .ok (.bipush 60, 2) := by decide +kernel
theorem dX1_init_21 : decode cX1_init 21 = .ok (.newarray .int, 2) := by decide +kernel
theorem dX1_init_23 : decode cX1_init 23 = .ok (.putfield 21, 3) := by decide +kernel
theorem dX1_init_26 : decode cX1_init 26 = .ok (.return_, 1) := by decide +kernel
theorem dX1_read_0 : decode cX1_read 0 = .ok (.aload_n 0, 1) := by decide +kernel
theorem dX1_read_1 : decode cX1_read 1 = .ok (.iconst 0, 1) := by decide +kernel
theorem dX1_read_2 : decode cX1_read 2 = .ok (.iload_n 2, 1) := by decide +kernel
theorem dX1_read_3 : decode cX1_read 3 = .ok (.aload_n 1, 1) := by decide +kernel
theorem dX1_read_4 : decode cX1_read 4 = .ok (.arraylength, 1) := by decide +kernel
theorem dX1_read_5 : decode cX1_read 5 = .ok (.bipush 60, 2) := by decide +kernel
theorem dX1_read_7 : decode cX1_read 7 = .ok (.invokestatic 25, 3) := by decide +kernel
theorem dX1_read_10 : decode cX1_read 10 = .ok (.invokestatic 25, 3) := by decide +kernel
theorem dX1_read_13 : decode cX1_read 13 = .ok (.invokestatic 31, 3) := by decide +kernel
theorem dX1_read_16 : decode cX1_read 16 = .ok (.putfield 34, 3) := by decide +kernel
theorem dX1_read_19 : decode cX1_read 19 = .ok (.aload_n 1, 1) := by decide +kernel
theorem dX1_read_20 : decode cX1_read 20 = .ok (.iconst 0, 1) := by decide +kernel
theorem dX1_read_21 : decode cX1_read 21 = .ok (.aload_n 0, 1) := by decide +kernel
theorem dX1_read_22 : decode cX1_read 22 = .ok (.getfield 9, 3) := by decide +kernel
theorem dX1_read_25 : decode cX1_read 25 = .ok (.iconst 0, 1) := by decide +kernel
theorem dX1_read_26 : decode cX1_read 26 = .ok (.aload_n 0, 1) := by decide +kernel
theorem dX1_read_27 : decode cX1_read 27 = .ok (.getfield 34, 3) := by decide +kernel
theorem dX1_read_30 : decode cX1_read 30 = .ok (.invokestatic 38, 3) := by decide +kernel
theorem dX1_read_33 : decode cX1_read 33 = .ok (.aload_n 0, 1) := by decide +kernel
theorem dX1_read_34 : decode cX1_read 34 = .ok (.iload_n 3, 1) := by decide +kernel
theorem dX1_read_35 : decode cX1_read 35 = .ok (.iconst 1, 1) := by decide +kernel
theorem dX1_read_36 : decode cX1_read 36 = .ok (.if_icmp .ne 8, 3) := by decide +kernel
theorem dX1_read_39 : decode cX1_read 39 = .ok (.ldc 44, 2) := by decide +kernel
theorem dX1_read_41 : decode cX1_read 41 = .ok (.goto 5, 3) := by decide +kernel
theorem dX1_read_44 : decode cX1_read 44 = .ok (.ldc 15, 2) := by decide +kernel
theorem dX1_read_46 : decode cX1_read 46 = .ok (.putfield 17, 3) := by decide +kernel
theorem dX1_read_49 : decode cX1_read 49 = .ok (.aload_n 0, 1) := by decide +kernel
theorem dX1_read_50 : decode cX1_read 50 = .ok (.iconst 0, 1) := by decide +kernel
theorem dX1_read_51 : decode cX1_read 51 = .ok (.putfield 46, 3) := by decide +kernel
theorem dX1_read_54 : decode cX1_read 54 = .ok (.aload_n 0, 1) := by decide +kernel
theorem dX1_read_55 : decode cX1_read 55 = .ok (.iconst 0, 1) := by decide +kernel
theorem dX1_read_56 : decode cX1_read 56 = .ok (.putfield 49, 3) := by decide +kernel
theorem dX1_read_59 : decode cX1_read 59 = .ok (.aload_n 0, 1) := by decide +kernel
theorem dX1_read_60 : decode cX1_read 60 = .ok (.iconst 0, 1) := by decide +kernel
theorem dX1_read_61 : decode cX1_read 61 = .ok (.iconst 0, 1) := by decide +kernel
theorem dX1_read_62 : decode cX1_read 62 = .ok (.invokevirtual 52, 3) := by decide +kernel
theorem dX1_read_65 : decode cX1_read 65 = .ok (.ifCond .eq 14, 3) := by decide +kernel
theorem dX1_read_68 : decode cX1_read 68 = .ok (.aload_n 0, 1) := by decide +kernel
theorem dX1_read_69 : decode cX1_read 69 = .ok (.getfield 46, 3) := by decide +kernel
theorem dX1_read_72 : decode cX1_read 72 = .ok (.aload_n 0, 1) := by decide +kernel
theorem dX1_read_73 : decode cX1_read 73 = .ok (.getfield 34, 3) := by decide +kernel
theorem dX1_read_76 : decode cX1_read 76 = .ok (.if_icmp .ge 8, 3) := by decide +kernel
theorem dX1_read_79 : decode cX1_read 79 = .ok (.aload_n 0, 1) := by decide +kernel
theorem dX1_read_80 : decode cX1_read 80 = .ok (.getfield 46, 3) := by decide +kernel
theorem dX1_read_83 : decode cX1_read 83 = .ok (.ireturn, 1) := by decide +kernel
theorem dX1_read_84 : decode cX1_read 84 = .ok (.aload 4, 2) := by decide +kernel
theorem dX1_read_86 : decode cX1_read 86 = .ok (.aload_n 0, 1) := by decide +kernel
theorem dX1_read_87 : decode cX1_read 87 = .ok (.getfield 21, 3) := by decide +kernel
theorem dX1_read_90 : decode cX1_read 90 = .ok (.aload_n 0, 1) := by decide +kernel
theorem dX1_read_91 : decode cX1_read 91 = .ok (.getfield 49, 3) := by decide +kernel
theorem dX1_read_94 : decode cX1_read 94 = .ok (.invokevirtual 56, 3) := by decide +kernel
theorem dX1_read_97 : decode cX1_read 97 = .ok (.iconst (-1), 1) := by decide +kernel
theorem dX1_read_98 : decode cX1_read 98 = .ok (.ireturn, 1) := by decide +kernel
theorem dX1_step_0 : decode cX1_step 0 = .ok (.aload_n 0, 1) := by decide +kernel
theorem dX1_step_1 : decode cX1_step 1 = .ok (.getfield 49, 3) := by decide +kernel
theorem dX1_step_4 : decode cX1_step 4 = .ok (.bipush 60, 2) := by decide +kernel
theorem dX1_step_6 : decode cX1_step 6 = .ok (.if_icmp .ge 23, 3) := by decide +kernel
theorem dX1_step_9 : decode cX1_step 9 = .ok (.aload_n 0, 1) := by decide +kernel
theorem dX1_step_10 : decode cX1_step 10 = .ok (.getfield 21, 3) := by decide +kernel
theorem dX1_step_13 : decode cX1_step 13 = .ok (.aload_n 0, 1) := by decide +kernel
theorem dX1_step_14 : decode cX1_step 14 = .ok (.getfield 49, 3) := by decide +kernel
theorem dX1_step_17 : decode cX1_step 17 = .ok (.iload_n 1, 1) := by decide +kernel
theorem dX1_step_18 : decode cX1_step 18 = .ok (.iastore, 1) := by decide +kernel
theorem dX1_step_19 : decode cX1_step 19 = .ok (.aload_n 0, 1) := by decide +kernel
theorem dX1_step_20 : decode cX1_step 20 = .ok (.dup, 1) := by decide +kernel
theorem dX1_step_21 : decode cX1_step 21 = .ok (.getfield 49, 3) := by decide +kernel
theorem dX1_step_24 : decode cX1_step 24 = .ok (.iconst 1, 1) := by decide +kernel
theorem dX1_step_25 : decode cX1_step 25 = .ok (.iadd, 1) := by decide +kernel
theorem dX1_step_26 : decode cX1_step 26 = .ok (.putfield 49, 3) := by decide +kernel
theorem dX1_step_29 : decode cX1_step 29 = .ok (.return_, 1) := by decide +kernel
theorem dX1_levelOf_0 : decode cX1_levelOf 0 = .ok (.iload_n 0, 1) := by decide +kernel
theorem dX1_levelOf_1 : decode cX1_levelOf 1 = .ok (.lookupswitch 101 #[(37, 99), (38, 93), (42, 99), (43, 97), (45, 97), (47, 99), (60, 95), (61, 95), (62, 95), (124, 91)], 91) := by decide +kernel
theorem dX1_levelOf_92 : decode cX1_levelOf 92 = .ok (.iconst 0, 1) := by decide +kernel
theorem dX1_levelOf_93 : decode cX1_levelOf 93 = .ok (.ireturn, 1) := by decide +kernel
theorem dX1_levelOf_94 : decode cX1_levelOf 94 = .ok (.iconst 1, 1) := by decide +kernel
theorem dX1_levelOf_95 : decode cX1_levelOf 95 = .ok (.ireturn, 1) := by decide +kernel
theorem dX1_levelOf_96 : decode cX1_levelOf 96 = .ok (.iconst 2, 1) := by decide +kernel
theorem dX1_levelOf_97 : decode cX1_levelOf 97 = .ok (.ireturn, 1) := by decide +kernel
theorem dX1_levelOf_98 : decode cX1_levelOf 98 = .ok (.iconst 3, 1) := by decide +kernel
theorem dX1_levelOf_99 : decode cX1_levelOf 99 = .ok (.ireturn, 1) := by decide +kernel
theorem dX1_levelOf_100 : decode cX1_levelOf 100 = .ok (.iconst 4, 1) := by decide +kernel
theorem dX1_levelOf_101 : decode cX1_levelOf 101 = .ok (.ireturn, 1) := by decide +kernel
theorem dX1_levelOf_102 : decode cX1_levelOf 102 = .ok (.iconst (-1), 1) := by decide +kernel
theorem dX1_levelOf_103 : decode cX1_levelOf 103 = .ok (.ireturn, 1) := by decide +kernel
theorem dX1_readLevel_0 : decode cX1_readLevel 0 = .ok (.iload_n 1, 1) := by decide +kernel
theorem dX1_readLevel_1 : decode cX1_readLevel 1 = .ok (.iconst 5, 1) := by decide +kernel
theorem dX1_readLevel_2 : decode cX1_readLevel 2 = .ok (.if_icmp .ge 8, 3) := by decide +kernel
theorem dX1_readLevel_5 : decode cX1_readLevel 5 = .ok (.iload_n 2, 1) := by decide +kernel
theorem dX1_readLevel_6 : decode cX1_readLevel 6 = .ok (.iconst 5, 1) := by decide +kernel
theorem dX1_readLevel_7 : decode cX1_readLevel 7 = .ok (.if_icmp .le 9, 3) := by decide +kernel
theorem dX1_readLevel_10 : decode cX1_readLevel 10 = .ok (.aload_n 0, 1) := by decide +kernel
theorem dX1_readLevel_11 : decode cX1_readLevel 11 = .ok (.iload_n 2, 1) := by decide +kernel
theorem dX1_readLevel_12 : decode cX1_readLevel 12 = .ok (.invokevirtual 62, 3) := by decide +kernel
theorem dX1_readLevel_15 : decode cX1_readLevel 15 = .ok (.ireturn, 1) := by decide +kernel
theorem dX1_readLevel_16 : decode cX1_readLevel 16 = .ok (.aload_n 0, 1) := by decide +kernel
theorem dX1_readLevel_17 : decode cX1_readLevel 17 = .ok (.iload_n 1, 1) := by decide +kernel
theorem dX1_readLevel_18 : decode cX1_readLevel 18 = .ok (.iconst 1, 1) := by decide +kernel
theorem dX1_readLevel_19 : decode cX1_readLevel 19 = .ok (.iadd, 1) := by decide +kernel
theorem dX1_readLevel_20 : decode cX1_readLevel 20 = .ok (.iload_n 2, 1) := by decide +kernel
theorem dX1_readLevel_21 : decode cX1_readLevel 21 = .ok (.invokevirtual 52, 3) := by decide +kernel
theorem dX1_readLevel_24 : decode cX1_readLevel 24 = .ok (.ifCond .ne 5, 3) := by decide +kernel
theorem dX1_readLevel_27 : decode cX1_readLevel 27 = .ok (.iconst 0, 1) := by decide +kernel
theorem dX1_readLevel_28 : decode cX1_readLevel 28 = .ok (.ireturn, 1) := by decide +kernel
theorem dX1_readLevel_29 : decode cX1_readLevel 29 = .ok (.iconst 1, 1) := by decide +kernel
theorem dX1_readLevel_30 : decode cX1_readLevel 30 = .ok (.istore_n 3, 1) := by decide +kernel
theorem dX1_readLevel_31 : decode cX1_readLevel 31 = .ok (.iload_n 3, 1) := by decide +kernel
theorem dX1_readLevel_32 : decode cX1_readLevel 32 = .ok (.ifCond .eq 85, 3) := by decide +kernel
theorem dX1_readLevel_35 : decode cX1_readLevel 35 = .ok (.aload_n 0, 1) := by decide +kernel
theorem dX1_readLevel_36 : decode cX1_readLevel 36 = .ok (.getfield 46, 3) := by decide +kernel
theorem dX1_readLevel_39 : decode cX1_readLevel 39 = .ok (.aload_n 0, 1) := by decide +kernel
theorem dX1_readLevel_40 : decode cX1_readLevel 40 = .ok (.getfield 34, 3) := by decide +kernel
theorem dX1_readLevel_43 : decode cX1_readLevel 43 = .ok (.if_icmp .ge 74, 3) := by decide +kernel
theorem dX1_readLevel_46 : decode cX1_readLevel 46 = .ok (.aload_n 0, 1) := by decide +kernel
theorem dX1_readLevel_47 : decode cX1_readLevel 47 = .ok (.getfield 9, 3) := by decide +kernel
theorem dX1_readLevel_50 : decode cX1_readLevel 50 = .ok (.aload_n 0, 1) := by decide +kernel
theorem dX1_readLevel_51 : decode cX1_readLevel 51 = .ok (.getfield 46, 3) := by decide +kernel
theorem dX1_readLevel_54 : decode cX1_readLevel 54 = .ok (.baload, 1) := by decide +kernel
theorem dX1_readLevel_55 : decode cX1_readLevel 55 = .ok (.invokestatic 66, 3) := by decide +kernel
theorem dX1_readLevel_58 : decode cX1_readLevel 58 = .ok (.iload_n 1, 1) := by decide +kernel
theorem dX1_readLevel_59 : decode cX1_readLevel 59 = .ok (.if_icmp .ne 58, 3) := by decide +kernel
theorem dX1_readLevel_62 : decode cX1_readLevel 62 = .ok (.aload_n 0, 1) := by decide +kernel
theorem dX1_readLevel_63 : decode cX1_readLevel 63 = .ok (.getfield 9, 3) := by decide +kernel
theorem dX1_readLevel_66 : decode cX1_readLevel 66 = .ok (.aload_n 0, 1) := by decide +kernel
theorem dX1_readLevel_67 : decode cX1_readLevel 67 = .ok (.getfield 46, 3) := by decide +kernel
theorem dX1_readLevel_70 : decode cX1_readLevel 70 = .ok (.baload, 1) := by decide +kernel
theorem dX1_readLevel_71 : decode cX1_readLevel 71 = .ok (.istore 4, 2) := by decide +kernel
theorem dX1_readLevel_73 : decode cX1_readLevel 73 = .ok (.aload_n 0, 1) := by decide +kernel
theorem dX1_readLevel_74 : decode cX1_readLevel 74 = .ok (.dup, 1) := by decide +kernel
theorem dX1_readLevel_75 : decode cX1_readLevel 75 = .ok (.getfield 46, 3) := by decide +kernel
theorem dX1_readLevel_78 : decode cX1_readLevel 78 = .ok (.iconst 1, 1) := by decide +kernel
theorem dX1_readLevel_79 : decode cX1_readLevel 79 = .ok (.iadd, 1) := by decide +kernel
theorem dX1_readLevel_80 : decode cX1_readLevel 80 = .ok (.putfield 46, 3) := by decide +kernel
theorem dX1_readLevel_83 : decode cX1_readLevel 83 = .ok (.aload_n 0, 1) := by decide +kernel
theorem dX1_readLevel_84 : decode cX1_readLevel 84 = .ok (.iload_n 1, 1) := by decide +kernel
theorem dX1_readLevel_85 : decode cX1_readLevel 85 = .ok (.iconst 1, 1) := by decide +kernel
theorem dX1_readLevel_86 : decode cX1_readLevel 86 = .ok (.iadd, 1) := by decide +kernel
theorem dX1_readLevel_87 : decode cX1_readLevel 87 = .ok (.iload_n 2, 1) := by decide +kernel
theorem dX1_readLevel_88 : decode cX1_readLevel 88 = .ok (.invokevirtual 52, 3) := by decide +kernel
theorem dX1_readLevel_91 : decode cX1_readLevel 91 = .ok (.ifCond .ne 5, 3) := by decide +kernel
theorem dX1_readLevel_94 : decode cX1_readLevel 94 = .ok (.iconst 0, 1) := by decide +kernel
theorem dX1_readLevel_95 : decode cX1_readLevel 95 = .ok (.ireturn, 1) := by decide +kernel
theorem dX1_readLevel_96 : decode cX1_readLevel 96 = .ok (.aload_n 0, 1) := by decide +kernel
theorem dX1_readLevel_97 : decode cX1_readLevel 97 = .ok (.iload 4, 2) := by decide +kernel
theorem dX1_readLevel_99 : decode cX1_readLevel 99 = .ok (.ineg, 1) := by decide +kernel
theorem dX1_readLevel_100 : decode cX1_readLevel 100 = .ok (.invokevirtual 70, 3) := by decide +kernel
theorem dX1_readLevel_103 : decode cX1_readLevel 103 = .ok (.iload_n 1, 1) := by decide +kernel
theorem dX1_readLevel_104 : decode cX1_readLevel 104 = .ok (.iconst 2, 1) := by decide +kernel
theorem dX1_readLevel_105 : decode cX1_readLevel 105 = .ok (.if_icmp .eq 7, 3) := by decide +kernel
theorem dX1_readLevel_108 : decode cX1_readLevel 108 = .ok (.iconst 1, 1) := by decide +kernel
theorem dX1_readLevel_109 : decode cX1_readLevel 109 = .ok (.goto 4, 3) := by decide +kernel
theorem dX1_readLevel_112 : decode cX1_readLevel 112 = .ok (.iconst 0, 1) := by decide +kernel
theorem dX1_readLevel_113 : decode cX1_readLevel 113 = .ok (.istore_n 3, 1) := by decide +kernel
theorem dX1_readLevel_114 : decode cX1_readLevel 114 = .ok (.goto (-83), 3) := by decide +kernel
theorem dX1_readLevel_117 : decode cX1_readLevel 117 = .ok (.iconst 1, 1) := by decide +kernel
theorem dX1_readLevel_118 : decode cX1_readLevel 118 = .ok (.ireturn, 1) := by decide +kernel
theorem dX1_readInner_0 : decode cX1_readInner 0 = .ok (.aload_n 0, 1) := by decide +kernel
theorem dX1_readInner_1 : decode cX1_readInner 1 = .ok (.getfield 46, 3) := by decide +kernel
theorem dX1_readInner_4 : decode cX1_readInner 4 = .ok (.aload_n 0, 1) := by decide +kernel
theorem dX1_readInner_5 : decode cX1_readInner 5 = .ok (.getfield 34, 3) := by decide +kernel
theorem dX1_readInner_8 : decode cX1_readInner 8 = .ok (.if_icmp .ge 8, 3) := by decide +kernel
theorem dX1_readInner_11 : decode cX1_readInner 11 = .ok (.iload_n 1, 1) := by decide +kernel
theorem dX1_readInner_12 : decode cX1_readInner 12 = .ok (.iconst 5, 1) := by decide +kernel
theorem dX1_readInner_13 : decode cX1_readInner 13 = .ok (.if_icmp .le 5, 3) := by decide +kernel
theorem dX1_readInner_16 : decode cX1_readInner 16 = .ok (.iconst 0, 1) := by decide +kernel
theorem dX1_readInner_17 : decode cX1_readInner 17 = .ok (.ireturn, 1) := by decide +kernel
theorem dX1_readInner_18 : decode cX1_readInner 18 = .ok (.aload_n 0, 1) := by decide +kernel
theorem dX1_readInner_19 : decode cX1_readInner 19 = .ok (.getfield 9, 3) := by decide +kernel
theorem dX1_readInner_22 : decode cX1_readInner 22 = .ok (.aload_n 0, 1) := by decide +kernel
theorem dX1_readInner_23 : decode cX1_readInner 23 = .ok (.getfield 46, 3) := by decide +kernel
theorem dX1_readInner_26 : decode cX1_readInner 26 = .ok (.baload, 1) := by decide +kernel
theorem dX1_readInner_27 : decode cX1_readInner 27 = .ok (.istore_n 2, 1) := by decide +kernel
theorem dX1_readInner_28 : decode cX1_readInner 28 = .ok (.iload_n 2, 1) := by decide +kernel
theorem dX1_readInner_29 : decode cX1_readInner 29 = .ok (.invokestatic 74, 3) := by decide +kernel
theorem dX1_readInner_32 : decode cX1_readInner 32 = .ok (.ifCond .eq 8, 3) := by decide +kernel
theorem dX1_readInner_35 : decode cX1_readInner 35 = .ok (.aload_n 0, 1) := by decide +kernel
theorem dX1_readInner_36 : decode cX1_readInner 36 = .ok (.invokevirtual 77, 3) := by decide +kernel
theorem dX1_readInner_39 : decode cX1_readInner 39 = .ok (.ireturn, 1) := by decide +kernel
theorem dX1_readInner_40 : decode cX1_readInner 40 = .ok (.iload_n 2, 1) := by decide +kernel
theorem dX1_readInner_41 : decode cX1_readInner 41 = .ok (.ifCond .le 15, 3) := by decide +kernel
theorem dX1_readInner_44 : decode cX1_readInner 44 = .ok (.aload_n 0, 1) := by decide +kernel
theorem dX1_readInner_45 : decode cX1_readInner 45 = .ok (.getfield 17, 3) := by decide +kernel
theorem dX1_readInner_48 : decode cX1_readInner 48 = .ok (.iload_n 2, 1) := by decide +kernel
theorem dX1_readInner_49 : decode cX1_readInner 49 = .ok (.i2c, 1) := by decide +kernel
theorem dX1_readInner_50 : decode cX1_readInner 50 = .ok (.invokevirtual 81, 3) := by decide +kernel
theorem dX1_readInner_53 : decode cX1_readInner 53 = .ok (.goto 4, 3) := by decide +kernel
theorem dX1_readInner_56 : decode cX1_readInner 56 = .ok (.iconst (-1), 1) := by decide +kernel
theorem dX1_readInner_57 : decode cX1_readInner 57 = .ok (.istore_n 3, 1) := by decide +kernel
theorem dX1_readInner_58 : decode cX1_readInner 58 = .ok (.iload_n 3, 1) := by decide +kernel
theorem dX1_readInner_59 : decode cX1_readInner 59 = .ok (.ifCond .lt 22, 3) := by decide +kernel
theorem dX1_readInner_62 : decode cX1_readInner 62 = .ok (.aload_n 0, 1) := by decide +kernel
theorem dX1_readInner_63 : decode cX1_readInner 63 = .ok (.dup, 1) := by decide +kernel
theorem dX1_readInner_64 : decode cX1_readInner 64 = .ok (.getfield 46, 3) := by decide +kernel
theorem dX1_readInner_67 : decode cX1_readInner 67 = .ok (.iconst 1, 1) := by decide +kernel
theorem dX1_readInner_68 : decode cX1_readInner 68 = .ok (.iadd, 1) := by decide +kernel
theorem dX1_readInner_69 : decode cX1_readInner 69 = .ok (.putfield 46, 3) := by decide +kernel
theorem dX1_readInner_72 : decode cX1_readInner 72 = .ok (.aload_n 0, 1) := by decide +kernel
theorem dX1_readInner_73 : decode cX1_readInner 73 = .ok (.iconst (-1), 1) := by decide +kernel
theorem dX1_readInner_74 : decode cX1_readInner 74 = .ok (.iload_n 3, 1) := by decide +kernel
theorem dX1_readInner_75 : decode cX1_readInner 75 = .ok (.isub, 1) := by decide +kernel
theorem dX1_readInner_76 : decode cX1_readInner 76 = .ok (.invokevirtual 70, 3) := by decide +kernel
theorem dX1_readInner_79 : decode cX1_readInner 79 = .ok (.iconst 1, 1) := by decide +kernel
theorem dX1_readInner_80 : decode cX1_readInner 80 = .ok (.ireturn, 1) := by decide +kernel
theorem dX1_readInner_81 : decode cX1_readInner 81 = .ok (.iload_n 2, 1) := by decide +kernel
theorem dX1_readInner_82 : decode cX1_readInner 82 = .ok (.bipush 33, 2) := by decide +kernel
theorem dX1_readInner_84 : decode cX1_readInner 84 = .ok (.if_icmp .eq 9, 3) := by decide +kernel
theorem dX1_readInner_87 : decode cX1_readInner 87 = .ok (.iload_n 2, 1) := by decide +kernel
theorem dX1_readInner_88 : decode cX1_readInner 88 = .ok (.bipush 40, 2) := by decide +kernel
theorem dX1_readInner_90 : decode cX1_readInner 90 = .ok (.if_icmp .ne 8, 3) := by decide +kernel
theorem dX1_readInner_93 : decode cX1_readInner 93 = .ok (.iload_n 1, 1) := by decide +kernel
theorem dX1_readInner_94 : decode cX1_readInner 94 = .ok (.iconst 5, 1) := by decide +kernel
theorem dX1_readInner_95 : decode cX1_readInner 95 = .ok (.if_icmp .ne 5, 3) := by decide +kernel
theorem dX1_readInner_98 : decode cX1_readInner 98 = .ok (.iconst 0, 1) := by decide +kernel
theorem dX1_readInner_99 : decode cX1_readInner 99 = .ok (.ireturn, 1) := by decide +kernel
theorem dX1_readInner_100 : decode cX1_readInner 100 = .ok (.aload_n 0, 1) := by decide +kernel
theorem dX1_readInner_101 : decode cX1_readInner 101 = .ok (.dup, 1) := by decide +kernel
theorem dX1_readInner_102 : decode cX1_readInner 102 = .ok (.getfield 46, 3) := by decide +kernel
theorem dX1_readInner_105 : decode cX1_readInner 105 = .ok (.iconst 1, 1) := by decide +kernel
theorem dX1_readInner_106 : decode cX1_readInner 106 = .ok (.iadd, 1) := by decide +kernel
theorem dX1_readInner_107 : decode cX1_readInner 107 = .ok (.putfield 46, 3) := by decide +kernel
theorem dX1_readInner_110 : decode cX1_readInner 110 = .ok (.iload_n 2, 1) := by decide +kernel
theorem dX1_readInner_111 : decode cX1_readInner 111 = .ok (.bipush 40, 2) := by decide +kernel
theorem dX1_readInner_113 : decode cX1_readInner 113 = .ok (.if_icmp .ne 27, 3) := by decide +kernel
theorem dX1_readInner_116 : decode cX1_readInner 116 = .ok (.aload_n 0, 1) := by decide +kernel
theorem dX1_readInner_117 : decode cX1_readInner 117 = .ok (.iconst 0, 1) := by decide +kernel
theorem dX1_readInner_118 : decode cX1_readInner 118 = .ok (.iload_n 1, 1) := by decide +kernel
theorem dX1_readInner_119 : decode cX1_readInner 119 = .ok (.iconst 1, 1) := by decide +kernel
theorem dX1_readInner_120 : decode cX1_readInner 120 = .ok (.iadd, 1) := by decide +kernel
theorem dX1_readInner_121 : decode cX1_readInner 121 = .ok (.invokevirtual 52, 3) := by decide +kernel
theorem dX1_readInner_124 : decode cX1_readInner 124 = .ok (.ifCond .eq 14, 3) := by decide +kernel
theorem dX1_readInner_127 : decode cX1_readInner 127 = .ok (.aload_n 0, 1) := by decide +kernel
theorem dX1_readInner_128 : decode cX1_readInner 128 = .ok (.invokevirtual 86, 3) := by decide +kernel
theorem dX1_readInner_131 : decode cX1_readInner 131 = .ok (.ifCond .eq 7, 3) := by decide +kernel
theorem dX1_readInner_134 : decode cX1_readInner 134 = .ok (.iconst 1, 1) := by decide +kernel
theorem dX1_readInner_135 : decode cX1_readInner 135 = .ok (.goto 4, 3) := by decide +kernel
theorem dX1_readInner_138 : decode cX1_readInner 138 = .ok (.iconst 0, 1) := by decide +kernel
theorem dX1_readInner_139 : decode cX1_readInner 139 = .ok (.ireturn, 1) := by decide +kernel
theorem dX1_readInner_140 : decode cX1_readInner 140 = .ok (.aload_n 0, 1) := by decide +kernel
theorem dX1_readInner_141 : decode cX1_readInner 141 = .ok (.iload_n 1, 1) := by decide +kernel
theorem dX1_readInner_142 : decode cX1_readInner 142 = .ok (.iconst 1, 1) := by decide +kernel
theorem dX1_readInner_143 : decode cX1_readInner 143 = .ok (.iadd, 1) := by decide +kernel
theorem dX1_readInner_144 : decode cX1_readInner 144 = .ok (.invokevirtual 62, 3) := by decide +kernel
theorem dX1_readInner_147 : decode cX1_readInner 147 = .ok (.istore 4, 2) := by decide +kernel
theorem dX1_readInner_149 : decode cX1_readInner 149 = .ok (.aload_n 0, 1) := by decide +kernel
theorem dX1_readInner_150 : decode cX1_readInner 150 = .ok (.bipush (-33), 2) := by decide +kernel
theorem dX1_readInner_152 : decode cX1_readInner 152 = .ok (.invokevirtual 70, 3) := by decide +kernel
theorem dX1_readInner_155 : decode cX1_readInner 155 = .ok (.iload 4, 2) := by decide +kernel
theorem dX1_readInner_157 : decode cX1_readInner 157 = .ok (.ireturn, 1) := by decide +kernel
theorem dX1_readClosing_0 : decode cX1_readClosing 0 = .ok (.aload_n 0, 1) := by decide +kernel
theorem dX1_readClosing_1 : decode cX1_readClosing 1 = .ok (.getfield 46, 3) := by decide +kernel
theorem dX1_readClosing_4 : decode cX1_readClosing 4 = .ok (.aload_n 0, 1) := by decide +kernel
theorem dX1_readClosing_5 : decode cX1_readClosing 5 = .ok (.getfield 34, 3) := by decide +kernel
theorem dX1_readClosing_8 : decode cX1_readClosing 8 = .ok (.if_icmp .ge 17, 3) := by decide +kernel
theorem dX1_readClosing_11 : decode cX1_readClosing 11 = .ok (.aload_n 0, 1) := by decide +kernel
theorem dX1_readClosing_12 : decode cX1_readClosing 12 = .ok (.getfield 9, 3) := by decide +kernel
theorem dX1_readClosing_15 : decode cX1_readClosing 15 = .ok (.aload_n 0, 1) := by decide +kernel
theorem dX1_readClosing_16 : decode cX1_readClosing 16 = .ok (.getfield 46, 3) := by decide +kernel
theorem dX1_readClosing_19 : decode cX1_readClosing 19 = .ok (.baload, 1) := by decide +kernel
theorem dX1_readClosing_20 : decode cX1_readClosing 20 = .ok (.bipush 41, 2) := by decide +kernel
theorem dX1_readClosing_22 : decode cX1_readClosing 22 = .ok (.if_icmp .eq 5, 3) := by decide +kernel
theorem dX1_readClosing_25 : decode cX1_readClosing 25 = .ok (.iconst 0, 1) := by decide +kernel
theorem dX1_readClosing_26 : decode cX1_readClosing 26 = .ok (.ireturn, 1) := by decide +kernel
theorem dX1_readClosing_27 : decode cX1_readClosing 27 = .ok (.aload_n 0, 1) := by decide +kernel
theorem dX1_readClosing_28 : decode cX1_readClosing 28 = .ok (.dup, 1) := by decide +kernel
theorem dX1_readClosing_29 : decode cX1_readClosing 29 = .ok (.getfield 46, 3) := by decide +kernel
theorem dX1_readClosing_32 : decode cX1_readClosing 32 = .ok (.iconst 1, 1) := by decide +kernel
theorem dX1_readClosing_33 : decode cX1_readClosing 33 = .ok (.iadd, 1) := by decide +kernel
theorem dX1_readClosing_34 : decode cX1_readClosing 34 = .ok (.putfield 46, 3) := by decide +kernel
theorem dX1_readClosing_37 : decode cX1_readClosing 37 = .ok (.iconst 1, 1) := by decide +kernel
theorem dX1_readClosing_38 : decode cX1_readClosing 38 = .ok (.ireturn, 1) := by decide +kernel
theorem dX1_readNumber_0 : decode cX1_readNumber 0 = .ok (.iconst 0, 1) := by decide +kernel
theorem dX1_readNumber_1 : decode cX1_readNumber 1 = .ok (.istore_n 1, 1) := by decide +kernel
theorem dX1_readNumber_2 : decode cX1_readNumber 2 = .ok (.iconst 0, 1) := by decide +kernel
theorem dX1_readNumber_3 : decode cX1_readNumber 3 = .ok (.istore_n 2, 1) := by decide +kernel
theorem dX1_readNumber_4 : decode cX1_readNumber 4 = .ok (.iload_n 2, 1) := by decide +kernel
theorem dX1_readNumber_5 : decode cX1_readNumber 5 = .ok (.iconst 4, 1) := by decide +kernel
theorem dX1_readNumber_6 : decode cX1_readNumber 6 = .ok (.if_icmp .ge 63, 3) := by decide +kernel
theorem dX1_readNumber_9 : decode cX1_readNumber 9 = .ok (.aload_n 0, 1) := by decide +kernel
theorem dX1_readNumber_10 : decode cX1_readNumber 10 = .ok (.getfield 46, 3) := by decide +kernel
theorem dX1_readNumber_13 : decode cX1_readNumber 13 = .ok (.aload_n 0, 1) := by decide +kernel
theorem dX1_readNumber_14 : decode cX1_readNumber 14 = .ok (.getfield 34, 3) := by decide +kernel
theorem dX1_readNumber_17 : decode cX1_readNumber 17 = .ok (.if_icmp .ge 52, 3) := by decide +kernel
theorem dX1_readNumber_20 : decode cX1_readNumber 20 = .ok (.aload_n 0, 1) := by decide +kernel
theorem dX1_readNumber_21 : decode cX1_readNumber 21 = .ok (.getfield 9, 3) := by decide +kernel
theorem dX1_readNumber_24 : decode cX1_readNumber 24 = .ok (.aload_n 0, 1) := by decide +kernel
theorem dX1_readNumber_25 : decode cX1_readNumber 25 = .ok (.getfield 46, 3) := by decide +kernel
theorem dX1_readNumber_28 : decode cX1_readNumber 28 = .ok (.baload, 1) := by decide +kernel
theorem dX1_readNumber_29 : decode cX1_readNumber 29 = .ok (.invokestatic 74, 3) := by decide +kernel
theorem dX1_readNumber_32 : decode cX1_readNumber 32 = .ok (.ifCond .eq 37, 3) := by decide +kernel
theorem dX1_readNumber_35 : decode cX1_readNumber 35 = .ok (.bipush 10, 2) := by decide +kernel
theorem dX1_readNumber_37 : decode cX1_readNumber 37 = .ok (.iload_n 1, 1) := by decide +kernel
theorem dX1_readNumber_38 : decode cX1_readNumber 38 = .ok (.imul, 1) := by decide +kernel
theorem dX1_readNumber_39 : decode cX1_readNumber 39 = .ok (.aload_n 0, 1) := by decide +kernel
theorem dX1_readNumber_40 : decode cX1_readNumber 40 = .ok (.getfield 9, 3) := by decide +kernel
theorem dX1_readNumber_43 : decode cX1_readNumber 43 = .ok (.aload_n 0, 1) := by decide +kernel
theorem dX1_readNumber_44 : decode cX1_readNumber 44 = .ok (.getfield 46, 3) := by decide +kernel
theorem dX1_readNumber_47 : decode cX1_readNumber 47 = .ok (.baload, 1) := by decide +kernel
theorem dX1_readNumber_48 : decode cX1_readNumber 48 = .ok (.iadd, 1) := by decide +kernel
theorem dX1_readNumber_49 : decode cX1_readNumber 49 = .ok (.bipush 48, 2) := by decide +kernel
theorem dX1_readNumber_51 : decode cX1_readNumber 51 = .ok (.isub, 1) := by decide +kernel
theorem dX1_readNumber_52 : decode cX1_readNumber 52 = .ok (.istore_n 1, 1) := by decide +kernel
theorem dX1_readNumber_53 : decode cX1_readNumber 53 = .ok (.aload_n 0, 1) := by decide +kernel
theorem dX1_readNumber_54 : decode cX1_readNumber 54 = .ok (.dup, 1) := by decide +kernel
theorem dX1_readNumber_55 : decode cX1_readNumber 55 = .ok (.getfield 46, 3) := by decide +kernel
theorem dX1_readNumber_58 : decode cX1_readNumber 58 = .ok (.iconst 1, 1) := by decide +kernel
theorem dX1_readNumber_59 : decode cX1_readNumber 59 = .ok (.iadd, 1) := by decide +kernel
theorem dX1_readNumber_60 : decode cX1_readNumber 60 = .ok (.putfield 46, 3) := by decide +kernel
theorem dX1_readNumber_63 : decode cX1_readNumber 63 = .ok (.iinc 2 1, 3) := by decide +kernel
theorem dX1_readNumber_66 : decode cX1_readNumber 66 = .ok (.goto (-62), 3) := by decide +kernel
theorem dX1_readNumber_69 : decode cX1_readNumber 69 = .ok (.aload_n 0, 1) := by decide +kernel
theorem dX1_readNumber_70 : decode cX1_readNumber 70 = .ok (.iload_n 1, 1) := by decide +kernel
theorem dX1_readNumber_71 : decode cX1_readNumber 71 = .ok (.invokevirtual 70, 3) := by decide +kernel
theorem dX1_readNumber_74 : decode cX1_readNumber 74 = .ok (.iconst 1, 1) := by decide +kernel
theorem dX1_readNumber_75 : decode cX1_readNumber 75 = .ok (.ireturn, 1) := by decide +kernel
theorem dX1_isDigit_0 : decode cX1_isDigit 0 = .ok (.iload_n 0, 1) := by decide +kernel
theorem dX1_isDigit_1 : decode cX1_isDigit 1 = .ok (.bipush 48, 2) := by decide +kernel
theorem dX1_isDigit_3 : decode cX1_isDigit 3 = .ok (.if_icmp .lt 13, 3) := by decide +kernel
theorem dX1_isDigit_6 : decode cX1_isDigit 6 = .ok (.iload_n 0, 1) := by decide +kernel
theorem dX1_isDigit_7 : decode cX1_isDigit 7 = .ok (.bipush 57, 2) := by decide +kernel
theorem dX1_isDigit_9 : decode cX1_isDigit 9 = .ok (.if_icmp .gt 7, 3) := by decide +kernel
theorem dX1_isDigit_12 : decode cX1_isDigit 12 = .ok (.iconst 1, 1) := by decide +kernel
theorem dX1_isDigit_13 : decode cX1_isDigit 13 = .ok (.goto 4, 3) := by decide +kernel
theorem dX1_isDigit_16 : decode cX1_isDigit 16 = .ok (.iconst 0, 1) := by decide +kernel
theorem dX1_isDigit_17 : decode cX1_isDigit 17 = .ok (.ireturn, 1) := by decide +kernel
theorem dX2_init_0 : decode cX2_init 0 = .ok (.aload_n 0, 1) := by decide +kernel
theorem dX2_init_1 : decode cX2_init 1 = .ok (.invokespecial 3, 3) := by decide +kernel
theorem dX2_init_4 : decode cX2_init 4 = .ok (.aload_n 0, 1) := by decide +kernel
theorem dX2_init_5 : decode cX2_init 5 = .ok (.bipush 24, 2) := by decide +kernel
theorem dX2_init_7 : decode cX2_init 7 = .ok (.newarray .int, 2) := by decide +kernel
theorem dX2_init_9 : decode cX2_init 9 = .ok (.putfield 9, 3) := by decide +kernel
theorem dX2_init_12 : decode cX2_init 12 = .ok (.return_, 1) := by decide +kernel
theorem dX2_isMissing_0 : decode cX2_isMissing 0 = .ok (.aload_n 0, 1) := by decide +kernel
theorem dX2_isMissing_1 : decode cX2_isMissing 1 = .ok (.getfield 15, 3) := by decide +kernel
theorem dX2_isMissing_4 : decode cX2_isMissing 4 = .ok (.ifCond .ne 7, 3) := by decide +kernel
theorem dX2_isMissing_7 : decode cX2_isMissing 7 = .ok (.iconst 1, 1) := by decide +kernel
theorem dX2_isMissing_8 : decode cX2_isMissing 8 = .ok (.goto 4, 3) := by decide +kernel
theorem dX2_isMissing_11 : decode cX2_isMissing 11 = .ok (.iconst 0, 1) := by decide +kernel
theorem dX2_isMissing_12 : decode cX2_isMissing 12 = .ok (.ireturn, 1) := by decide +kernel
theorem dX2_lay_0 : decode cX2_lay 0 = .ok (.aload_n 0, 1) := by decide +kernel
theorem dX2_lay_1 : decode cX2_lay 1 = .ok (.iload_n 1, 1) := by decide +kernel
theorem dX2_lay_2 : decode cX2_lay 2 = .ok (.putfield 15, 3) := by decide +kernel
theorem dX2_lay_5 : decode cX2_lay 5 = .ok (.aload_n 0, 1) := by decide +kernel
theorem dX2_lay_6 : decode cX2_lay 6 = .ok (.aload_n 0, 1) := by decide +kernel
theorem dX2_lay_7 : decode cX2_lay 7 = .ok (.getfield 15, 3) := by decide +kernel
theorem dX2_lay_10 : decode cX2_lay 10 = .ok (.ifCond .ne 7, 3) := by decide +kernel
theorem dX2_lay_13 : decode cX2_lay 13 = .ok (.iconst 0, 1) := by decide +kernel
theorem dX2_lay_14 : decode cX2_lay 14 = .ok (.goto 13, 3) := by decide +kernel
theorem dX2_lay_17 : decode cX2_lay 17 = .ok (.iconst 0, 1) := by decide +kernel
theorem dX2_lay_18 : decode cX2_lay 18 = .ok (.iload_n 2, 1) := by decide +kernel
theorem dX2_lay_19 : decode cX2_lay 19 = .ok (.bipush 24, 2) := by decide +kernel
theorem dX2_lay_21 : decode cX2_lay 21 = .ok (.invokestatic 19, 3) := by decide +kernel
theorem dX2_lay_24 : decode cX2_lay 24 = .ok (.invokestatic 25, 3) := by decide +kernel
theorem dX2_lay_27 : decode cX2_lay 27 = .ok (.putfield 28, 3) := by decide +kernel
theorem dX2_lay_30 : decode cX2_lay 30 = .ok (.iconst 0, 1) := by decide +kernel
theorem dX2_lay_31 : decode cX2_lay 31 = .ok (.istore_n 3, 1) := by decide +kernel
theorem dX2_lay_32 : decode cX2_lay 32 = .ok (.iload_n 3, 1) := by decide +kernel
theorem dX2_lay_33 : decode cX2_lay 33 = .ok (.bipush 24, 2) := by decide +kernel
theorem dX2_lay_35 : decode cX2_lay 35 = .ok (.if_icmp .ge 16, 3) := by decide +kernel
theorem dX2_lay_38 : decode cX2_lay 38 = .ok (.aload_n 0, 1) := by decide +kernel
theorem dX2_lay_39 : decode cX2_lay 39 = .ok (.getfield 9, 3) := by decide +kernel
theorem dX2_lay_42 : decode cX2_lay 42 = .ok (.iload_n 3, 1) := by decide +kernel
theorem dX2_lay_43 : decode cX2_lay 43 = .ok (.iconst 0, 1) := by decide +kernel
theorem dX2_lay_44 : decode cX2_lay 44 = .ok (.iastore, 1) := by decide +kernel
theorem dX2_lay_45 : decode cX2_lay 45 = .ok (.iinc 3 1, 3) := by decide +kernel
theorem dX2_lay_48 : decode cX2_lay 48 = .ok (.goto (-16), 3) := by decide +kernel
theorem dX2_lay_51 : decode cX2_lay 51 = .ok (.return_, 1) := by decide +kernel
theorem dX2_write_0 : decode cX2_write 0 = .ok (.iload_n 1, 1) := by decide +kernel
theorem dX2_write_1 : decode cX2_write 1 = .ok (.ifCond .lt 40, 3) := by decide +kernel
theorem dX2_write_4 : decode cX2_write 4 = .ok (.iload_n 1, 1) := by decide +kernel
theorem dX2_write_5 : decode cX2_write 5 = .ok (.aload_n 0, 1) := by decide +kernel
theorem dX2_write_6 : decode cX2_write 6 = .ok (.getfield 28, 3) := by decide +kernel
theorem dX2_write_9 : decode cX2_write 9 = .ok (.if_icmp .ge 32, 3) := by decide +kernel
theorem dX2_write_12 : decode cX2_write 12 = .ok (.aload_n 0, 1) := by decide +kernel
theorem dX2_write_13 : decode cX2_write 13 = .ok (.getfield 9, 3) := by decide +kernel
theorem dX2_write_16 : decode cX2_write 16 = .ok (.iload_n 1, 1) := by decide +kernel
theorem dX2_write_17 : decode cX2_write 17 = .ok (.aload_n 0, 1) := by decide +kernel
theorem dX2_write_18 : decode cX2_write 18 = .ok (.getfield 15, 3) := by decide +kernel
theorem dX2_write_21 : decode cX2_write 21 = .ok (.bipush 32, 2) := by decide +kernel
theorem dX2_write_23 : decode cX2_write 23 = .ok (.if_icmp .ne 7, 3) := by decide +kernel
theorem dX2_write_26 : decode cX2_write 26 = .ok (.iload_n 2, 1) := by decide +kernel
theorem dX2_write_27 : decode cX2_write 27 = .ok (.goto 13, 3) := by decide +kernel
theorem dX2_write_30 : decode cX2_write 30 = .ok (.iload_n 2, 1) := by decide +kernel
theorem dX2_write_31 : decode cX2_write 31 = .ok (.iconst 1, 1) := by decide +kernel
theorem dX2_write_32 : decode cX2_write 32 = .ok (.aload_n 0, 1) := by decide +kernel
theorem dX2_write_33 : decode cX2_write 33 = .ok (.getfield 15, 3) := by decide +kernel
theorem dX2_write_36 : decode cX2_write 36 = .ok (.ishl, 1) := by decide +kernel
theorem dX2_write_37 : decode cX2_write 37 = .ok (.iconst 1, 1) := by decide +kernel
theorem dX2_write_38 : decode cX2_write 38 = .ok (.isub, 1) := by decide +kernel
theorem dX2_write_39 : decode cX2_write 39 = .ok (.iand, 1) := by decide +kernel
theorem dX2_write_40 : decode cX2_write 40 = .ok (.iastore, 1) := by decide +kernel
theorem dX2_write_41 : decode cX2_write 41 = .ok (.return_, 1) := by decide +kernel
theorem dX2_holds_0 : decode cX2_holds 0 = .ok (.iload_n 2, 1) := by decide +kernel
theorem dX2_holds_1 : decode cX2_holds 1 = .ok (.ifCond .lt 29, 3) := by decide +kernel
theorem dX2_holds_4 : decode cX2_holds 4 = .ok (.iload_n 1, 1) := by decide +kernel
theorem dX2_holds_5 : decode cX2_holds 5 = .ok (.ifCond .lt 25, 3) := by decide +kernel
theorem dX2_holds_8 : decode cX2_holds 8 = .ok (.iload_n 2, 1) := by decide +kernel
theorem dX2_holds_9 : decode cX2_holds 9 = .ok (.aload_n 0, 1) := by decide +kernel
theorem dX2_holds_10 : decode cX2_holds 10 = .ok (.getfield 28, 3) := by decide +kernel
theorem dX2_holds_13 : decode cX2_holds 13 = .ok (.if_icmp .gt 17, 3) := by decide +kernel
theorem dX2_holds_16 : decode cX2_holds 16 = .ok (.iload_n 1, 1) := by decide +kernel
theorem dX2_holds_17 : decode cX2_holds 17 = .ok (.aload_n 0, 1) := by decide +kernel
theorem dX2_holds_18 : decode cX2_holds 18 = .ok (.getfield 28, 3) := by decide +kernel
theorem dX2_holds_21 : decode cX2_holds 21 = .ok (.iload_n 2, 1) := by decide +kernel
theorem dX2_holds_22 : decode cX2_holds 22 = .ok (.isub, 1) := by decide +kernel
theorem dX2_holds_23 : decode cX2_holds 23 = .ok (.if_icmp .gt 7, 3) := by decide +kernel
theorem dX2_holds_26 : decode cX2_holds 26 = .ok (.iconst 1, 1) := by decide +kernel
theorem dX2_holds_27 : decode cX2_holds 27 = .ok (.goto 4, 3) := by decide +kernel
theorem dX2_holds_30 : decode cX2_holds 30 = .ok (.iconst 0, 1) := by decide +kernel
theorem dX2_holds_31 : decode cX2_holds 31 = .ok (.ireturn, 1) := by decide +kernel
theorem dX3_init_0 : decode cX3_init 0 = .ok (.aload_n 0, 1) := by decide +kernel
theorem dX3_init_1 : decode cX3_init 1 = .ok (.invokespecial 3, 3) := by decide +kernel
theorem dX3_init_4 : decode cX3_init 4 = .ok (.aload_n 0, 1) := by decide +kernel
theorem dX3_init_5 : decode cX3_init 5 = .ok (.bipush 8, 2) := by decide +kernel
theorem dX3_init_7 : decode cX3_init 7 = .ok (.newarray .int, 2) := by decide +kernel
theorem dX3_init_9 : decode cX3_init 9 = .ok (.putfield 9, 3) := by decide +kernel
theorem dX3_init_12 : decode cX3_init 12 = .ok (.aload_n 0, 1) := by decide +kernel
theorem dX3_init_13 : decode cX3_init 13 = .ok (.bipush 8, 2) := by decide +kernel
theorem dX3_init_15 : decode cX3_init 15 = .ok (.newarray .int, 2) := by decide +kernel
theorem dX3_init_17 : decode cX3_init 17 = .ok (.putfield 15, 3) := by decide +kernel
theorem dX3_init_20 : decode cX3_init 20 = .ok (.return_, 1) := by decide +kernel
theorem dX3_copy_0 : decode cX3_copy 0 = .ok (.aload_n 1, 1) := by decide +kernel
theorem dX3_copy_1 : decode cX3_copy 1 = .ok (.getfield 9, 3) := by decide +kernel
theorem dX3_copy_4 : decode cX3_copy 4 = .ok (.iconst 0, 1) := by decide +kernel
theorem dX3_copy_5 : decode cX3_copy 5 = .ok (.aload_n 0, 1) := by decide +kernel
theorem dX3_copy_6 : decode cX3_copy 6 = .ok (.getfield 9, 3) := by decide +kernel
theorem dX3_copy_9 : decode cX3_copy 9 = .ok (.iconst 0, 1) := by decide +kernel
theorem dX3_copy_10 : decode cX3_copy 10 = .ok (.bipush 8, 2) := by decide +kernel
theorem dX3_copy_12 : decode cX3_copy 12 = .ok (.invokestatic 18, 3) := by decide +kernel
theorem dX3_copy_15 : decode cX3_copy 15 = .ok (.aload_n 1, 1) := by decide +kernel
theorem dX3_copy_16 : decode cX3_copy 16 = .ok (.getfield 15, 3) := by decide +kernel
theorem dX3_copy_19 : decode cX3_copy 19 = .ok (.iconst 0, 1) := by decide +kernel
theorem dX3_copy_20 : decode cX3_copy 20 = .ok (.aload_n 0, 1) := by decide +kernel
theorem dX3_copy_21 : decode cX3_copy 21 = .ok (.getfield 15, 3) := by decide +kernel
theorem dX3_copy_24 : decode cX3_copy 24 = .ok (.iconst 0, 1) := by decide +kernel
theorem dX3_copy_25 : decode cX3_copy 25 = .ok (.bipush 8, 2) := by decide +kernel
theorem dX3_copy_27 : decode cX3_copy 27 = .ok (.invokestatic 18, 3) := by decide +kernel
theorem dX3_copy_30 : decode cX3_copy 30 = .ok (.aload_n 0, 1) := by decide +kernel
theorem dX3_copy_31 : decode cX3_copy 31 = .ok (.aload_n 1, 1) := by decide +kernel
theorem dX3_copy_32 : decode cX3_copy 32 = .ok (.getfield 24, 3) := by decide +kernel
theorem dX3_copy_35 : decode cX3_copy 35 = .ok (.putfield 24, 3) := by decide +kernel
theorem dX3_copy_38 : decode cX3_copy 38 = .ok (.return_, 1) := by decide +kernel
theorem dX4_init_0 : decode cX4_init 0 = .ok (.aload_n 0, 1) := by decide +kernel
theorem dX4_init_1 : decode cX4_init 1 = .ok (.invokespecial 3, 3) := by decide +kernel
theorem dX4_init_4 : decode cX4_init 4 = .ok (.aload_n 0, 1) := by decide +kernel
theorem dX4_init_5 : decode cX4_init 5 = .ok (.bipush 8, 2) := by decide +kernel
theorem dX4_init_7 : decode cX4_init 7 = .ok (.newarray .int, 2) := by decide +kernel
theorem dX4_init_9 : decode cX4_init 9 = .ok (.putfield 9, 3) := by decide +kernel
theorem dX4_init_12 : decode cX4_init 12 = .ok (.aload_n 0, 1) := by decide +kernel
theorem dX4_init_13 : decode cX4_init 13 = .ok (.bipush 8, 2) := by decide +kernel
theorem dX4_init_15 : decode cX4_init 15 = .ok (.newarray .int, 2) := by decide +kernel
theorem dX4_init_17 : decode cX4_init 17 = .ok (.putfield 15, 3) := by decide +kernel
theorem dX4_init_20 : decode cX4_init 20 = .ok (.aload_n 0, 1) := by decide +kernel
theorem dX4_init_21 : decode cX4_init 21 = .ok (.bipush 8, 2) := by decide +kernel
theorem dX4_init_23 : decode cX4_init 23 = .ok (.newarray .int, 2) := by decide +kernel
theorem dX4_init_25 : decode cX4_init 25 = .ok (.putfield 18, 3) := by decide +kernel
theorem dX4_init_28 : decode cX4_init 28 = .ok (.aload_n 0, 1) := by decide +kernel
theorem dX4_init_29 : decode cX4_init 29 = .ok (.new 21, 3) := by decide +kernel
theorem dX4_init_32 : decode cX4_init 32 = .ok (.dup, 1) := by decide +kernel
theorem dX4_init_33 : decode cX4_init 33 = .ok (.invokespecial 23, 3) := by decide +kernel
theorem dX4_init_36 : decode cX4_init 36 = .ok (.putfield 24, 3) := by decide +kernel
theorem dX4_init_39 : decode cX4_init 39 = .ok (.aload_n 0, 1) := by decide +kernel
theorem dX4_init_40 : decode cX4_init 40 = .ok (.new 28, 3) := by decide +kernel
theorem dX4_init_43 : decode cX4_init 43 = .ok (.dup, 1) := by decide +kernel
theorem dX4_init_44 : decode cX4_init 44 = .ok (.bipush 99, 2) := by decide +kernel
theorem dX4_init_46 : decode cX4_init 46 = .ok (.invokespecial 30, 3) := by decide +kernel
theorem dX4_init_49 : decode cX4_init 49 = .ok (.putfield 33, 3) := by decide +kernel
theorem dX4_init_52 : decode cX4_init 52 = .ok (.aload_n 0, 1) := by decide +kernel
theorem dX4_init_53 : decode cX4_init 53 = .ok (.new 28, 3) := by decide +kernel
theorem dX4_init_56 : decode cX4_init 56 = .ok (.dup, 1) := by decide +kernel
theorem dX4_init_57 : decode cX4_init 57 = .ok (.bipush 9, 2) := by decide +kernel
theorem dX4_init_59 : decode cX4_init 59 = .ok (.invokespecial 30, 3) := by decide +kernel
theorem dX4_init_62 : decode cX4_init 62 = .ok (.putfield 37, 3) := by decide +kernel
theorem dX4_init_65 : decode cX4_init 65 = .ok (.aload_n 0, 1) := by decide +kernel
theorem dX4_init_66 : decode cX4_init 66 = .ok (.bipush 60, 2) := by decide +kernel
theorem dX4_init_68 : decode cX4_init 68 = .ok (.newarray .byte, 2) := by decide +kernel
theorem dX4_init_70 : decode cX4_init 70 = .ok (.putfield 40, 3) := by decide +kernel
theorem dX4_init_73 : decode cX4_init 73 = .ok (.aload_n 0, 1) := by decide +kernel
theorem dX4_init_74 : decode cX4_init 74 = .ok (.bipush 24, 2) := by decide +kernel
theorem dX4_init_76 : decode cX4_init 76 = .ok (.newarray .int, 2) := by decide +kernel
theorem dX4_init_78 : decode cX4_init 78 = .ok (.putfield 44, 3) := by decide +kernel
theorem dX4_init_81 : decode cX4_init 81 = .ok (.aload_n 0, 1) := by decide +kernel
theorem dX4_init_82 : decode cX4_init 82 = .ok (.iconst 1, 1) := by decide +kernel
theorem dX4_init_83 : decode cX4_init 83 = .ok (.putfield 47, 3) := by decide +kernel
theorem dX4_init_86 : decode cX4_init 86 = .ok (.return_, 1) := by decide +kernel
theorem dX4_copy_0 : decode cX4_copy 0 = .ok (.aload_n 0, 1) := by decide +kernel
theorem dX4_copy_1 : decode cX4_copy 1 = .ok (.aload_n 1, 1) := by decide +kernel
theorem dX4_copy_2 : decode cX4_copy 2 = .ok (.getfield 51, 3) := by decide +kernel
theorem dX4_copy_5 : decode cX4_copy 5 = .ok (.putfield 51, 3) := by decide +kernel
theorem dX4_copy_8 : decode cX4_copy 8 = .ok (.aload_n 1, 1) := by decide +kernel
theorem dX4_copy_9 : decode cX4_copy 9 = .ok (.getfield 9, 3) := by decide +kernel
theorem dX4_copy_12 : decode cX4_copy 12 = .ok (.iconst 0, 1) := by decide +kernel
theorem dX4_copy_13 : decode cX4_copy 13 = .ok (.aload_n 0, 1) := by decide +kernel
theorem dX4_copy_14 : decode cX4_copy 14 = .ok (.getfield 9, 3) := by decide +kernel
theorem dX4_copy_17 : decode cX4_copy 17 = .ok (.iconst 0, 1) := by decide +kernel
theorem dX4_copy_18 : decode cX4_copy 18 = .ok (.bipush 8, 2) := by decide +kernel
theorem dX4_copy_20 : decode cX4_copy 20 = .ok (.invokestatic 54, 3) := by decide +kernel
theorem dX4_copy_23 : decode cX4_copy 23 = .ok (.aload_n 1, 1) := by decide +kernel
theorem dX4_copy_24 : decode cX4_copy 24 = .ok (.getfield 15, 3) := by decide +kernel
theorem dX4_copy_27 : decode cX4_copy 27 = .ok (.iconst 0, 1) := by decide +kernel
theorem dX4_copy_28 : decode cX4_copy 28 = .ok (.aload_n 0, 1) := by decide +kernel
theorem dX4_copy_29 : decode cX4_copy 29 = .ok (.getfield 15, 3) := by decide +kernel
theorem dX4_copy_32 : decode cX4_copy 32 = .ok (.iconst 0, 1) := by decide +kernel
theorem dX4_copy_33 : decode cX4_copy 33 = .ok (.bipush 8, 2) := by decide +kernel
theorem dX4_copy_35 : decode cX4_copy 35 = .ok (.invokestatic 54, 3) := by decide +kernel
theorem dX4_copy_38 : decode cX4_copy 38 = .ok (.aload_n 1, 1) := by decide +kernel
theorem dX4_copy_39 : decode cX4_copy 39 = .ok (.getfield 18, 3) := by decide +kernel
theorem dX4_copy_42 : decode cX4_copy 42 = .ok (.iconst 0, 1) := by decide +kernel
theorem dX4_copy_43 : decode cX4_copy 43 = .ok (.aload_n 0, 1) := by decide +kernel
theorem dX4_copy_44 : decode cX4_copy 44 = .ok (.getfield 18, 3) := by decide +kernel
theorem dX4_copy_47 : decode cX4_copy 47 = .ok (.iconst 0, 1) := by decide +kernel
theorem dX4_copy_48 : decode cX4_copy 48 = .ok (.bipush 8, 2) := by decide +kernel
theorem dX4_copy_50 : decode cX4_copy 50 = .ok (.invokestatic 54, 3) := by decide +kernel
theorem dX4_copy_53 : decode cX4_copy 53 = .ok (.aload_n 0, 1) := by decide +kernel
theorem dX4_copy_54 : decode cX4_copy 54 = .ok (.getfield 24, 3) := by decide +kernel
theorem dX4_copy_57 : decode cX4_copy 57 = .ok (.aload_n 1, 1) := by decide +kernel
theorem dX4_copy_58 : decode cX4_copy 58 = .ok (.getfield 24, 3) := by decide +kernel
theorem dX4_copy_61 : decode cX4_copy 61 = .ok (.invokevirtual 60, 3) := by decide +kernel
theorem dX4_copy_64 : decode cX4_copy 64 = .ok (.aload_n 0, 1) := by decide +kernel
theorem dX4_copy_65 : decode cX4_copy 65 = .ok (.getfield 33, 3) := by decide +kernel
theorem dX4_copy_68 : decode cX4_copy 68 = .ok (.aload_n 1, 1) := by decide +kernel
theorem dX4_copy_69 : decode cX4_copy 69 = .ok (.getfield 33, 3) := by decide +kernel
theorem dX4_copy_72 : decode cX4_copy 72 = .ok (.getfield 64, 3) := by decide +kernel
theorem dX4_copy_75 : decode cX4_copy 75 = .ok (.aload_n 1, 1) := by decide +kernel
theorem dX4_copy_76 : decode cX4_copy 76 = .ok (.getfield 33, 3) := by decide +kernel
theorem dX4_copy_79 : decode cX4_copy 79 = .ok (.getfield 67, 3) := by decide +kernel
theorem dX4_copy_82 : decode cX4_copy 82 = .ok (.invokevirtual 70, 3) := by decide +kernel
theorem dX4_copy_85 : decode cX4_copy 85 = .ok (.aload_n 0, 1) := by decide +kernel
theorem dX4_copy_86 : decode cX4_copy 86 = .ok (.getfield 37, 3) := by decide +kernel
theorem dX4_copy_89 : decode cX4_copy 89 = .ok (.aload_n 1, 1) := by decide +kernel
theorem dX4_copy_90 : decode cX4_copy 90 = .ok (.getfield 37, 3) := by decide +kernel
theorem dX4_copy_93 : decode cX4_copy 93 = .ok (.getfield 64, 3) := by decide +kernel
theorem dX4_copy_96 : decode cX4_copy 96 = .ok (.aload_n 1, 1) := by decide +kernel
theorem dX4_copy_97 : decode cX4_copy 97 = .ok (.getfield 37, 3) := by decide +kernel
theorem dX4_copy_100 : decode cX4_copy 100 = .ok (.getfield 67, 3) := by decide +kernel
theorem dX4_copy_103 : decode cX4_copy 103 = .ok (.invokevirtual 70, 3) := by decide +kernel
theorem dX4_copy_106 : decode cX4_copy 106 = .ok (.aload_n 1, 1) := by decide +kernel
theorem dX4_copy_107 : decode cX4_copy 107 = .ok (.getfield 40, 3) := by decide +kernel
theorem dX4_copy_110 : decode cX4_copy 110 = .ok (.iconst 0, 1) := by decide +kernel
theorem dX4_copy_111 : decode cX4_copy 111 = .ok (.aload_n 0, 1) := by decide +kernel
theorem dX4_copy_112 : decode cX4_copy 112 = .ok (.getfield 40, 3) := by decide +kernel
theorem dX4_copy_115 : decode cX4_copy 115 = .ok (.iconst 0, 1) := by decide +kernel
theorem dX4_copy_116 : decode cX4_copy 116 = .ok (.bipush 60, 2) := by decide +kernel
theorem dX4_copy_118 : decode cX4_copy 118 = .ok (.invokestatic 54, 3) := by decide +kernel
theorem dX4_copy_121 : decode cX4_copy 121 = .ok (.aload_n 0, 1) := by decide +kernel
theorem dX4_copy_122 : decode cX4_copy 122 = .ok (.aload_n 1, 1) := by decide +kernel
theorem dX4_copy_123 : decode cX4_copy 123 = .ok (.getfield 73, 3) := by decide +kernel
theorem dX4_copy_126 : decode cX4_copy 126 = .ok (.putfield 73, 3) := by decide +kernel
theorem dX4_copy_129 : decode cX4_copy 129 = .ok (.aload_n 1, 1) := by decide +kernel
theorem dX4_copy_130 : decode cX4_copy 130 = .ok (.getfield 44, 3) := by decide +kernel
theorem dX4_copy_133 : decode cX4_copy 133 = .ok (.iconst 0, 1) := by decide +kernel
theorem dX4_copy_134 : decode cX4_copy 134 = .ok (.aload_n 0, 1) := by decide +kernel
theorem dX4_copy_135 : decode cX4_copy 135 = .ok (.getfield 44, 3) := by decide +kernel
theorem dX4_copy_138 : decode cX4_copy 138 = .ok (.iconst 0, 1) := by decide +kernel
theorem dX4_copy_139 : decode cX4_copy 139 = .ok (.bipush 24, 2) := by decide +kernel
theorem dX4_copy_141 : decode cX4_copy 141 = .ok (.invokestatic 54, 3) := by decide +kernel
theorem dX4_copy_144 : decode cX4_copy 144 = .ok (.aload_n 0, 1) := by decide +kernel
theorem dX4_copy_145 : decode cX4_copy 145 = .ok (.aload_n 1, 1) := by decide +kernel
theorem dX4_copy_146 : decode cX4_copy 146 = .ok (.getfield 76, 3) := by decide +kernel
theorem dX4_copy_149 : decode cX4_copy 149 = .ok (.putfield 76, 3) := by decide +kernel
theorem dX4_copy_152 : decode cX4_copy 152 = .ok (.aload_n 0, 1) := by decide +kernel
theorem dX4_copy_153 : decode cX4_copy 153 = .ok (.aload_n 1, 1) := by decide +kernel
theorem dX4_copy_154 : decode cX4_copy 154 = .ok (.getfield 47, 3) := by decide +kernel
theorem dX4_copy_157 : decode cX4_copy 157 = .ok (.putfield 47, 3) := by decide +kernel
theorem dX4_copy_160 : decode cX4_copy 160 = .ok (.return_, 1) := by decide +kernel
theorem dX4_has_0 : decode cX4_has 0 = .ok (.iload_n 1, 1) := by decide +kernel
theorem dX4_has_1 : decode cX4_has 1 = .ok (.ifCond .lt 15, 3) := by decide +kernel
theorem dX4_has_4 : decode cX4_has 4 = .ok (.iload_n 1, 1) := by decide +kernel
theorem dX4_has_5 : decode cX4_has 5 = .ok (.aload_n 0, 1) := by decide +kernel
theorem dX4_has_6 : decode cX4_has 6 = .ok (.getfield 51, 3) := by decide +kernel
theorem dX4_has_9 : decode cX4_has 9 = .ok (.if_icmp .ge 7, 3) := by decide +kernel
theorem dX4_has_12 : decode cX4_has 12 = .ok (.iconst 1, 1) := by decide +kernel
theorem dX4_has_13 : decode cX4_has 13 = .ok (.goto 4, 3) := by decide +kernel
theorem dX4_has_16 : decode cX4_has 16 = .ok (.iconst 0, 1) := by decide +kernel
theorem dX4_has_17 : decode cX4_has 17 = .ok (.ireturn, 1) := by decide +kernel
theorem dX4_lawOf_0 : decode cX4_lawOf 0 = .ok (.iload_n 1, 1) := by decide +kernel
theorem dX4_lawOf_1 : decode cX4_lawOf 1 = .ok (.iconst 1, 1) := by decide +kernel
theorem dX4_lawOf_2 : decode cX4_lawOf 2 = .ok (.if_icmp .ne 10, 3) := by decide +kernel
theorem dX4_lawOf_5 : decode cX4_lawOf 5 = .ok (.aload_n 0, 1) := by decide +kernel
theorem dX4_lawOf_6 : decode cX4_lawOf 6 = .ok (.getfield 37, 3) := by decide +kernel
theorem dX4_lawOf_9 : decode cX4_lawOf 9 = .ok (.goto 7, 3) := by decide +kernel
theorem dX4_lawOf_12 : decode cX4_lawOf 12 = .ok (.aload_n 0, 1) := by decide +kernel
theorem dX4_lawOf_13 : decode cX4_lawOf 13 = .ok (.getfield 33, 3) := by decide +kernel
theorem dX4_lawOf_16 : decode cX4_lawOf 16 = .ok (.areturn, 1) := by decide +kernel
theorem dX4_join_0 : decode cX4_join 0 = .ok (.aload_n 0, 1) := by decide +kernel
theorem dX4_join_1 : decode cX4_join 1 = .ok (.getfield 51, 3) := by decide +kernel
theorem dX4_join_4 : decode cX4_join 4 = .ok (.istore 4, 2) := by decide +kernel
theorem dX4_join_6 : decode cX4_join 6 = .ok (.iload 4, 2) := by decide +kernel
theorem dX4_join_8 : decode cX4_join 8 = .ok (.bipush 8, 2) := by decide +kernel
theorem dX4_join_10 : decode cX4_join 10 = .ok (.if_icmp .lt 6, 3) := by decide +kernel
theorem dX4_join_13 : decode cX4_join 13 = .ok (.iload 4, 2) := by decide +kernel
theorem dX4_join_15 : decode cX4_join 15 = .ok (.ireturn, 1) := by decide +kernel
theorem dX4_join_16 : decode cX4_join 16 = .ok (.aload_n 0, 1) := by decide +kernel
theorem dX4_join_17 : decode cX4_join 17 = .ok (.getfield 9, 3) := by decide +kernel
theorem dX4_join_20 : decode cX4_join 20 = .ok (.iload 4, 2) := by decide +kernel
theorem dX4_join_22 : decode cX4_join 22 = .ok (.iload_n 1, 1) := by decide +kernel
theorem dX4_join_23 : decode cX4_join 23 = .ok (.bipush 10, 2) := by decide +kernel
theorem dX4_join_25 : decode cX4_join 25 = .ok (.idiv, 1) := by decide +kernel
theorem dX4_join_26 : decode cX4_join 26 = .ok (.iastore, 1) := by decide +kernel
theorem dX4_join_27 : decode cX4_join 27 = .ok (.aload_n 0, 1) := by decide +kernel
theorem dX4_join_28 : decode cX4_join 28 = .ok (.getfield 15, 3) := by decide +kernel
theorem dX4_join_31 : decode cX4_join 31 = .ok (.iload 4, 2) := by decide +kernel
theorem dX4_join_33 : decode cX4_join 33 = .ok (.iload_n 1, 1) := by decide +kernel
theorem dX4_join_34 : decode cX4_join 34 = .ok (.bipush 10, 2) := by decide +kernel
theorem dX4_join_36 : decode cX4_join 36 = .ok (.irem, 1) := by decide +kernel
theorem dX4_join_37 : decode cX4_join 37 = .ok (.iastore, 1) := by decide +kernel
theorem dX4_join_38 : decode cX4_join 38 = .ok (.aload_n 0, 1) := by decide +kernel
theorem dX4_join_39 : decode cX4_join 39 = .ok (.getfield 18, 3) := by decide +kernel
theorem dX4_join_42 : decode cX4_join 42 = .ok (.iload 4, 2) := by decide +kernel
theorem dX4_join_44 : decode cX4_join 44 = .ok (.iconst 0, 1) := by decide +kernel
theorem dX4_join_45 : decode cX4_join 45 = .ok (.iastore, 1) := by decide +kernel
theorem dX4_join_46 : decode cX4_join 46 = .ok (.aload_n 0, 1) := by decide +kernel
theorem dX4_join_47 : decode cX4_join 47 = .ok (.getfield 24, 3) := by decide +kernel
theorem dX4_join_50 : decode cX4_join 50 = .ok (.getfield 79, 3) := by decide +kernel
theorem dX4_join_53 : decode cX4_join 53 = .ok (.iload 4, 2) := by decide +kernel
theorem dX4_join_55 : decode cX4_join 55 = .ok (.iload_n 2, 1) := by decide +kernel
theorem dX4_join_56 : decode cX4_join 56 = .ok (.iastore, 1) := by decide +kernel
theorem dX4_join_57 : decode cX4_join 57 = .ok (.aload_n 0, 1) := by decide +kernel
theorem dX4_join_58 : decode cX4_join 58 = .ok (.getfield 24, 3) := by decide +kernel
theorem dX4_join_61 : decode cX4_join 61 = .ok (.getfield 82, 3) := by decide +kernel
theorem dX4_join_64 : decode cX4_join 64 = .ok (.iload 4, 2) := by decide +kernel
theorem dX4_join_66 : decode cX4_join 66 = .ok (.iload_n 3, 1) := by decide +kernel
theorem dX4_join_67 : decode cX4_join 67 = .ok (.iastore, 1) := by decide +kernel
theorem dX4_join_68 : decode cX4_join 68 = .ok (.aload_n 0, 1) := by decide +kernel
theorem dX4_join_69 : decode cX4_join 69 = .ok (.dup, 1) := by decide +kernel
theorem dX4_join_70 : decode cX4_join 70 = .ok (.getfield 51, 3) := by decide +kernel
theorem dX4_join_73 : decode cX4_join 73 = .ok (.iconst 1, 1) := by decide +kernel
theorem dX4_join_74 : decode cX4_join 74 = .ok (.iadd, 1) := by decide +kernel
theorem dX4_join_75 : decode cX4_join 75 = .ok (.putfield 51, 3) := by decide +kernel
theorem dX4_join_78 : decode cX4_join 78 = .ok (.iload 4, 2) := by decide +kernel
theorem dX4_join_80 : decode cX4_join 80 = .ok (.ireturn, 1) := by decide +kernel
theorem dX4_meet_0 : decode cX4_meet 0 = .ok (.aload_n 0, 1) := by decide +kernel
theorem dX4_meet_1 : decode cX4_meet 1 = .ok (.getfield 24, 3) := by decide +kernel
theorem dX4_meet_4 : decode cX4_meet 4 = .ok (.getfield 79, 3) := by decide +kernel
theorem dX4_meet_7 : decode cX4_meet 7 = .ok (.iload_n 1, 1) := by decide +kernel
theorem dX4_meet_8 : decode cX4_meet 8 = .ok (.iaload, 1) := by decide +kernel
theorem dX4_meet_9 : decode cX4_meet 9 = .ok (.aload_n 0, 1) := by decide +kernel
theorem dX4_meet_10 : decode cX4_meet 10 = .ok (.getfield 24, 3) := by decide +kernel
theorem dX4_meet_13 : decode cX4_meet 13 = .ok (.getfield 79, 3) := by decide +kernel
theorem dX4_meet_16 : decode cX4_meet 16 = .ok (.iload_n 2, 1) := by decide +kernel
theorem dX4_meet_17 : decode cX4_meet 17 = .ok (.iaload, 1) := by decide +kernel
theorem dX4_meet_18 : decode cX4_meet 18 = .ok (.invokestatic 85, 3) := by decide +kernel
theorem dX4_meet_21 : decode cX4_meet 21 = .ok (.istore_n 3, 1) := by decide +kernel
theorem dX4_meet_22 : decode cX4_meet 22 = .ok (.aload_n 0, 1) := by decide +kernel
theorem dX4_meet_23 : decode cX4_meet 23 = .ok (.getfield 24, 3) := by decide +kernel
theorem dX4_meet_26 : decode cX4_meet 26 = .ok (.getfield 79, 3) := by decide +kernel
theorem dX4_meet_29 : decode cX4_meet 29 = .ok (.iload_n 1, 1) := by decide +kernel
theorem dX4_meet_30 : decode cX4_meet 30 = .ok (.iload_n 3, 1) := by decide +kernel
theorem dX4_meet_31 : decode cX4_meet 31 = .ok (.iastore, 1) := by decide +kernel
theorem dX4_meet_32 : decode cX4_meet 32 = .ok (.aload_n 0, 1) := by decide +kernel
theorem dX4_meet_33 : decode cX4_meet 33 = .ok (.getfield 24, 3) := by decide +kernel
theorem dX4_meet_36 : decode cX4_meet 36 = .ok (.getfield 79, 3) := by decide +kernel
theorem dX4_meet_39 : decode cX4_meet 39 = .ok (.iload_n 2, 1) := by decide +kernel
theorem dX4_meet_40 : decode cX4_meet 40 = .ok (.iload_n 3, 1) := by decide +kernel
theorem dX4_meet_41 : decode cX4_meet 41 = .ok (.iastore, 1) := by decide +kernel
theorem dX4_meet_42 : decode cX4_meet 42 = .ok (.aload_n 0, 1) := by decide +kernel
theorem dX4_meet_43 : decode cX4_meet 43 = .ok (.getfield 18, 3) := by decide +kernel
theorem dX4_meet_46 : decode cX4_meet 46 = .ok (.iload_n 1, 1) := by decide +kernel
theorem dX4_meet_47 : decode cX4_meet 47 = .ok (.dup2, 1) := by decide +kernel
theorem dX4_meet_48 : decode cX4_meet 48 = .ok (.iaload, 1) := by decide +kernel
theorem dX4_meet_49 : decode cX4_meet 49 = .ok (.iconst 1, 1) := by decide +kernel
theorem dX4_meet_50 : decode cX4_meet 50 = .ok (.iload_n 2, 1) := by decide +kernel
theorem dX4_meet_51 : decode cX4_meet 51 = .ok (.ishl, 1) := by decide +kernel
theorem dX4_meet_52 : decode cX4_meet 52 = .ok (.ior, 1) := by decide +kernel
theorem dX4_meet_53 : decode cX4_meet 53 = .ok (.iastore, 1) := by decide +kernel
theorem dX4_meet_54 : decode cX4_meet 54 = .ok (.iload_n 3, 1) := by decide +kernel
theorem dX4_meet_55 : decode cX4_meet 55 = .ok (.ireturn, 1) := by decide +kernel
theorem dX4_record_0 : decode cX4_record 0 = .ok (.iconst 0, 1) := by decide +kernel
theorem dX4_record_1 : decode cX4_record 1 = .ok (.istore 4, 2) := by decide +kernel
theorem dX4_record_3 : decode cX4_record 3 = .ok (.iload 4, 2) := by decide +kernel
theorem dX4_record_5 : decode cX4_record 5 = .ok (.iload_n 3, 1) := by decide +kernel
theorem dX4_record_6 : decode cX4_record 6 = .ok (.if_icmp .ge 46, 3) := by decide +kernel
theorem dX4_record_9 : decode cX4_record 9 = .ok (.aload_n 0, 1) := by decide +kernel
theorem dX4_record_10 : decode cX4_record 10 = .ok (.getfield 73, 3) := by decide +kernel
theorem dX4_record_13 : decode cX4_record 13 = .ok (.bipush 60, 2) := by decide +kernel
theorem dX4_record_15 : decode cX4_record 15 = .ok (.if_icmp .ge 37, 3) := by decide +kernel
theorem dX4_record_18 : decode cX4_record 18 = .ok (.aload_n 0, 1) := by decide +kernel
theorem dX4_record_19 : decode cX4_record 19 = .ok (.getfield 40, 3) := by decide +kernel
theorem dX4_record_22 : decode cX4_record 22 = .ok (.aload_n 0, 1) := by decide +kernel
theorem dX4_record_23 : decode cX4_record 23 = .ok (.getfield 73, 3) := by decide +kernel
theorem dX4_record_26 : decode cX4_record 26 = .ok (.lload_n 1, 1) := by decide +kernel
theorem dX4_record_27 : decode cX4_record 27 = .ok (.bipush 8, 2) := by decide +kernel
theorem dX4_record_29 : decode cX4_record 29 = .ok (.iload 4, 2) := by decide +kernel
theorem dX4_record_31 : decode cX4_record 31 = .ok (.imul, 1) := by decide +kernel
theorem dX4_record_32 : decode cX4_record 32 = .ok (.lushr, 1) := by decide +kernel
theorem dX4_record_33 : decode cX4_record 33 = .ok (.l2i, 1) := by decide +kernel
theorem dX4_record_34 : decode cX4_record 34 = .ok (.i2b, 1) := by decide +kernel
theorem dX4_record_35 : decode cX4_record 35 = .ok (.bastore, 1) := by decide +kernel
theorem dX4_record_36 : decode cX4_record 36 = .ok (.aload_n 0, 1) := by decide +kernel
theorem dX4_record_37 : decode cX4_record 37 = .ok (.dup, 1) := by decide +kernel
theorem dX4_record_38 : decode cX4_record 38 = .ok (.getfield 73, 3) := by decide +kernel
theorem dX4_record_41 : decode cX4_record 41 = .ok (.iconst 1, 1) := by decide +kernel
theorem dX4_record_42 : decode cX4_record 42 = .ok (.iadd, 1) := by decide +kernel
theorem dX4_record_43 : decode cX4_record 43 = .ok (.putfield 73, 3) := by decide +kernel
theorem dX4_record_46 : decode cX4_record 46 = .ok (.iinc 4 1, 3) := by decide +kernel
theorem dX4_record_49 : decode cX4_record 49 = .ok (.goto (-46), 3) := by decide +kernel
theorem dX4_record_52 : decode cX4_record 52 = .ok (.aload_n 0, 1) := by decide +kernel
theorem dX4_record_53 : decode cX4_record 53 = .ok (.getfield 73, 3) := by decide +kernel
theorem dX4_record_56 : decode cX4_record 56 = .ok (.ireturn, 1) := by decide +kernel
theorem dX4_draw_0 : decode cX4_draw 0 = .ok (.aload_n 0, 1) := by decide +kernel
theorem dX4_draw_1 : decode cX4_draw 1 = .ok (.aload_n 0, 1) := by decide +kernel
theorem dX4_draw_2 : decode cX4_draw 2 = .ok (.getfield 47, 3) := by decide +kernel
theorem dX4_draw_5 : decode cX4_draw 5 = .ok (.ldc 91, 2) := by decide +kernel
theorem dX4_draw_7 : decode cX4_draw 7 = .ok (.imul, 1) := by decide +kernel
theorem dX4_draw_8 : decode cX4_draw 8 = .ok (.sipush 12345, 3) := by decide +kernel
theorem dX4_draw_11 : decode cX4_draw 11 = .ok (.iadd, 1) := by decide +kernel
theorem dX4_draw_12 : decode cX4_draw 12 = .ok (.putfield 47, 3) := by decide +kernel
theorem dX4_draw_15 : decode cX4_draw 15 = .ok (.aload_n 0, 1) := by decide +kernel
theorem dX4_draw_16 : decode cX4_draw 16 = .ok (.getfield 47, 3) := by decide +kernel
theorem dX4_draw_19 : decode cX4_draw 19 = .ok (.bipush 8, 2) := by decide +kernel
theorem dX4_draw_21 : decode cX4_draw 21 = .ok (.iushr, 1) := by decide +kernel
theorem dX4_draw_22 : decode cX4_draw 22 = .ok (.ireturn, 1) := by decide +kernel
theorem dX4_drawMoves_0 : decode cX4_drawMoves 0 = .ok (.aload_n 0, 1) := by decide +kernel
theorem dX4_drawMoves_1 : decode cX4_drawMoves 1 = .ok (.getfield 51, 3) := by decide +kernel
theorem dX4_drawMoves_4 : decode cX4_drawMoves 4 = .ok (.iconst 2, 1) := by decide +kernel
theorem dX4_drawMoves_5 : decode cX4_drawMoves 5 = .ok (.if_icmp .ge 4, 3) := by decide +kernel
theorem dX4_drawMoves_8 : decode cX4_drawMoves 8 = .ok (.return_, 1) := by decide +kernel
theorem dX4_drawMoves_9 : decode cX4_drawMoves 9 = .ok (.aload_n 0, 1) := by decide +kernel
theorem dX4_drawMoves_10 : decode cX4_drawMoves 10 = .ok (.invokevirtual 92, 3) := by decide +kernel
theorem dX4_drawMoves_13 : decode cX4_drawMoves 13 = .ok (.aload_n 0, 1) := by decide +kernel
theorem dX4_drawMoves_14 : decode cX4_drawMoves 14 = .ok (.getfield 51, 3) := by decide +kernel
theorem dX4_drawMoves_17 : decode cX4_drawMoves 17 = .ok (.irem, 1) := by decide +kernel
theorem dX4_drawMoves_18 : decode cX4_drawMoves 18 = .ok (.istore_n 1, 1) := by decide +kernel
theorem dX4_drawMoves_19 : decode cX4_drawMoves 19 = .ok (.aload_n 0, 1) := by decide +kernel
theorem dX4_drawMoves_20 : decode cX4_drawMoves 20 = .ok (.getfield 24, 3) := by decide +kernel
theorem dX4_drawMoves_23 : decode cX4_drawMoves 23 = .ok (.getfield 82, 3) := by decide +kernel
theorem dX4_drawMoves_26 : decode cX4_drawMoves 26 = .ok (.iload_n 1, 1) := by decide +kernel
theorem dX4_drawMoves_27 : decode cX4_drawMoves 27 = .ok (.aload_n 0, 1) := by decide +kernel
theorem dX4_drawMoves_28 : decode cX4_drawMoves 28 = .ok (.invokevirtual 92, 3) := by decide +kernel
theorem dX4_drawMoves_31 : decode cX4_drawMoves 31 = .ok (.bipush 10, 2) := by decide +kernel
theorem dX4_drawMoves_33 : decode cX4_drawMoves 33 = .ok (.irem, 1) := by decide +kernel
theorem dX4_drawMoves_34 : decode cX4_drawMoves 34 = .ok (.iastore, 1) := by decide +kernel
theorem dX4_drawMoves_35 : decode cX4_drawMoves 35 = .ok (.aload_n 0, 1) := by decide +kernel
theorem dX4_drawMoves_36 : decode cX4_drawMoves 36 = .ok (.invokevirtual 92, 3) := by decide +kernel
theorem dX4_drawMoves_39 : decode cX4_drawMoves 39 = .ok (.aload_n 0, 1) := by decide +kernel
theorem dX4_drawMoves_40 : decode cX4_drawMoves 40 = .ok (.getfield 51, 3) := by decide +kernel
theorem dX4_drawMoves_43 : decode cX4_drawMoves 43 = .ok (.irem, 1) := by decide +kernel
theorem dX4_drawMoves_44 : decode cX4_drawMoves 44 = .ok (.istore_n 2, 1) := by decide +kernel
theorem dX4_drawMoves_45 : decode cX4_drawMoves 45 = .ok (.aload_n 0, 1) := by decide +kernel
theorem dX4_drawMoves_46 : decode cX4_drawMoves 46 = .ok (.invokevirtual 92, 3) := by decide +kernel
theorem dX4_drawMoves_49 : decode cX4_drawMoves 49 = .ok (.aload_n 0, 1) := by decide +kernel
theorem dX4_drawMoves_50 : decode cX4_drawMoves 50 = .ok (.getfield 51, 3) := by decide +kernel
theorem dX4_drawMoves_53 : decode cX4_drawMoves 53 = .ok (.irem, 1) := by decide +kernel
theorem dX4_drawMoves_54 : decode cX4_drawMoves 54 = .ok (.istore_n 3, 1) := by decide +kernel
theorem dX4_drawMoves_55 : decode cX4_drawMoves 55 = .ok (.iload_n 2, 1) := by decide +kernel
theorem dX4_drawMoves_56 : decode cX4_drawMoves 56 = .ok (.iload_n 3, 1) := by decide +kernel
theorem dX4_drawMoves_57 : decode cX4_drawMoves 57 = .ok (.if_icmp .eq 10, 3) := by decide +kernel
theorem dX4_drawMoves_60 : decode cX4_drawMoves 60 = .ok (.aload_n 0, 1) := by decide +kernel
theorem dX4_drawMoves_61 : decode cX4_drawMoves 61 = .ok (.iload_n 2, 1) := by decide +kernel
theorem dX4_drawMoves_62 : decode cX4_drawMoves 62 = .ok (.iload_n 3, 1) := by decide +kernel
theorem dX4_drawMoves_63 : decode cX4_drawMoves 63 = .ok (.invokevirtual 96, 3) := by decide +kernel
theorem dX4_drawMoves_66 : decode cX4_drawMoves 66 = .ok (.pop, 1) := by decide +kernel
theorem dX4_drawMoves_67 : decode cX4_drawMoves 67 = .ok (.return_, 1) := by decide +kernel
theorem dX4_takenBy_0 : decode cX4_takenBy 0 = .ok (.aload_n 0, 1) := by decide +kernel
theorem dX4_takenBy_1 : decode cX4_takenBy 1 = .ok (.getfield 33, 3) := by decide +kernel
theorem dX4_takenBy_4 : decode cX4_takenBy 4 = .ok (.aload_n 0, 1) := by decide +kernel
theorem dX4_takenBy_5 : decode cX4_takenBy 5 = .ok (.getfield 9, 3) := by decide +kernel
theorem dX4_takenBy_8 : decode cX4_takenBy 8 = .ok (.iload_n 1, 1) := by decide +kernel
theorem dX4_takenBy_9 : decode cX4_takenBy 9 = .ok (.iaload, 1) := by decide +kernel
theorem dX4_takenBy_10 : decode cX4_takenBy 10 = .ok (.aload_n 0, 1) := by decide +kernel
theorem dX4_takenBy_11 : decode cX4_takenBy 11 = .ok (.getfield 15, 3) := by decide +kernel
theorem dX4_takenBy_14 : decode cX4_takenBy 14 = .ok (.iload_n 1, 1) := by decide +kernel
theorem dX4_takenBy_15 : decode cX4_takenBy 15 = .ok (.iaload, 1) := by decide +kernel
theorem dX4_takenBy_16 : decode cX4_takenBy 16 = .ok (.iload_n 2, 1) := by decide +kernel
theorem dX4_takenBy_17 : decode cX4_takenBy 17 = .ok (.iload_n 3, 1) := by decide +kernel
theorem dX4_takenBy_18 : decode cX4_takenBy 18 = .ok (.iload 4, 2) := by decide +kernel
theorem dX4_takenBy_20 : decode cX4_takenBy 20 = .ok (.invokestatic 99, 3) := by decide +kernel
theorem dX4_takenBy_23 : decode cX4_takenBy 23 = .ok (.iload_n 2, 1) := by decide +kernel
theorem dX4_takenBy_24 : decode cX4_takenBy 24 = .ok (.iload_n 3, 1) := by decide +kernel
theorem dX4_takenBy_25 : decode cX4_takenBy 25 = .ok (.invokevirtual 103, 3) := by decide +kernel
theorem dX4_takenBy_28 : decode cX4_takenBy 28 = .ok (.ireturn, 1) := by decide +kernel
theorem dX4_signOf_0 : decode cX4_signOf 0 = .ok (.aload_n 0, 1) := by decide +kernel
theorem dX4_signOf_1 : decode cX4_signOf 1 = .ok (.getfield 9, 3) := by decide +kernel
theorem dX4_signOf_4 : decode cX4_signOf 4 = .ok (.iload_n 1, 1) := by decide +kernel
theorem dX4_signOf_5 : decode cX4_signOf 5 = .ok (.iaload, 1) := by decide +kernel
theorem dX4_signOf_6 : decode cX4_signOf 6 = .ok (.aload_n 2, 1) := by decide +kernel
theorem dX4_signOf_7 : decode cX4_signOf 7 = .ok (.getfield 79, 3) := by decide +kernel
theorem dX4_signOf_10 : decode cX4_signOf 10 = .ok (.iload_n 1, 1) := by decide +kernel
theorem dX4_signOf_11 : decode cX4_signOf 11 = .ok (.iaload, 1) := by decide +kernel
theorem dX4_signOf_12 : decode cX4_signOf 12 = .ok (.aload_n 2, 1) := by decide +kernel
theorem dX4_signOf_13 : decode cX4_signOf 13 = .ok (.getfield 82, 3) := by decide +kernel
theorem dX4_signOf_16 : decode cX4_signOf 16 = .ok (.iload_n 1, 1) := by decide +kernel
theorem dX4_signOf_17 : decode cX4_signOf 17 = .ok (.iaload, 1) := by decide +kernel
theorem dX4_signOf_18 : decode cX4_signOf 18 = .ok (.aload_n 2, 1) := by decide +kernel
theorem dX4_signOf_19 : decode cX4_signOf 19 = .ok (.getfield 107, 3) := by decide +kernel
theorem dX4_signOf_22 : decode cX4_signOf 22 = .ok (.invokestatic 110, 3) := by decide +kernel
theorem dX4_signOf_25 : decode cX4_signOf 25 = .ok (.istore_n 3, 1) := by decide +kernel
theorem dX4_signOf_26 : decode cX4_signOf 26 = .ok (.aload_n 0, 1) := by decide +kernel
theorem dX4_signOf_27 : decode cX4_signOf 27 = .ok (.getfield 37, 3) := by decide +kernel
theorem dX4_signOf_30 : decode cX4_signOf 30 = .ok (.iload_n 3, 1) := by decide +kernel
theorem dX4_signOf_31 : decode cX4_signOf 31 = .ok (.aload_n 2, 1) := by decide +kernel
theorem dX4_signOf_32 : decode cX4_signOf 32 = .ok (.getfield 79, 3) := by decide +kernel
theorem dX4_signOf_35 : decode cX4_signOf 35 = .ok (.iload_n 1, 1) := by decide +kernel
theorem dX4_signOf_36 : decode cX4_signOf 36 = .ok (.iaload, 1) := by decide +kernel
theorem dX4_signOf_37 : decode cX4_signOf 37 = .ok (.aload_n 2, 1) := by decide +kernel
theorem dX4_signOf_38 : decode cX4_signOf 38 = .ok (.getfield 107, 3) := by decide +kernel
theorem dX4_signOf_41 : decode cX4_signOf 41 = .ok (.bipush 7, 2) := by decide +kernel
theorem dX4_signOf_43 : decode cX4_signOf 43 = .ok (.irem, 1) := by decide +kernel
theorem dX4_signOf_44 : decode cX4_signOf 44 = .ok (.invokevirtual 103, 3) := by decide +kernel
theorem dX4_signOf_47 : decode cX4_signOf 47 = .ok (.ireturn, 1) := by decide +kernel
theorem dX4_nearAfter_0 : decode cX4_nearAfter 0 = .ok (.aload_n 0, 1) := by decide +kernel
theorem dX4_nearAfter_1 : decode cX4_nearAfter 1 = .ok (.getfield 51, 3) := by decide +kernel
theorem dX4_nearAfter_4 : decode cX4_nearAfter 4 = .ok (.iconst 2, 1) := by decide +kernel
theorem dX4_nearAfter_5 : decode cX4_nearAfter 5 = .ok (.if_icmp .ge 10, 3) := by decide +kernel
theorem dX4_nearAfter_8 : decode cX4_nearAfter 8 = .ok (.aload_n 2, 1) := by decide +kernel
theorem dX4_nearAfter_9 : decode cX4_nearAfter 9 = .ok (.getfield 79, 3) := by decide +kernel
theorem dX4_nearAfter_12 : decode cX4_nearAfter 12 = .ok (.iload_n 1, 1) := by decide +kernel
theorem dX4_nearAfter_13 : decode cX4_nearAfter 13 = .ok (.iaload, 1) := by decide +kernel
theorem dX4_nearAfter_14 : decode cX4_nearAfter 14 = .ok (.ireturn, 1) := by decide +kernel
theorem dX4_nearAfter_15 : decode cX4_nearAfter 15 = .ok (.iconst 0, 1) := by decide +kernel
theorem dX4_nearAfter_16 : decode cX4_nearAfter 16 = .ok (.istore_n 3, 1) := by decide +kernel
theorem dX4_nearAfter_17 : decode cX4_nearAfter 17 = .ok (.iconst 0, 1) := by decide +kernel
theorem dX4_nearAfter_18 : decode cX4_nearAfter 18 = .ok (.istore 4, 2) := by decide +kernel
theorem dX4_nearAfter_20 : decode cX4_nearAfter 20 = .ok (.iload 4, 2) := by decide +kernel
theorem dX4_nearAfter_22 : decode cX4_nearAfter 22 = .ok (.aload_n 0, 1) := by decide +kernel
theorem dX4_nearAfter_23 : decode cX4_nearAfter 23 = .ok (.getfield 51, 3) := by decide +kernel
theorem dX4_nearAfter_26 : decode cX4_nearAfter 26 = .ok (.if_icmp .ge 40, 3) := by decide +kernel
theorem dX4_nearAfter_29 : decode cX4_nearAfter 29 = .ok (.iload 4, 2) := by decide +kernel
theorem dX4_nearAfter_31 : decode cX4_nearAfter 31 = .ok (.iload_n 1, 1) := by decide +kernel
theorem dX4_nearAfter_32 : decode cX4_nearAfter 32 = .ok (.if_icmp .eq 28, 3) := by decide +kernel
theorem dX4_nearAfter_35 : decode cX4_nearAfter 35 = .ok (.iload_n 3, 1) := by decide +kernel
theorem dX4_nearAfter_36 : decode cX4_nearAfter 36 = .ok (.aload_n 0, 1) := by decide +kernel
theorem dX4_nearAfter_37 : decode cX4_nearAfter 37 = .ok (.iload 4, 2) := by decide +kernel
theorem dX4_nearAfter_39 : decode cX4_nearAfter 39 = .ok (.aload_n 2, 1) := by decide +kernel
theorem dX4_nearAfter_40 : decode cX4_nearAfter 40 = .ok (.getfield 79, 3) := by decide +kernel
theorem dX4_nearAfter_43 : decode cX4_nearAfter 43 = .ok (.iload_n 1, 1) := by decide +kernel
theorem dX4_nearAfter_44 : decode cX4_nearAfter 44 = .ok (.iaload, 1) := by decide +kernel
theorem dX4_nearAfter_45 : decode cX4_nearAfter 45 = .ok (.aload_n 2, 1) := by decide +kernel
theorem dX4_nearAfter_46 : decode cX4_nearAfter 46 = .ok (.getfield 82, 3) := by decide +kernel
theorem dX4_nearAfter_49 : decode cX4_nearAfter 49 = .ok (.iload_n 1, 1) := by decide +kernel
theorem dX4_nearAfter_50 : decode cX4_nearAfter 50 = .ok (.iaload, 1) := by decide +kernel
theorem dX4_nearAfter_51 : decode cX4_nearAfter 51 = .ok (.aload_n 2, 1) := by decide +kernel
theorem dX4_nearAfter_52 : decode cX4_nearAfter 52 = .ok (.getfield 107, 3) := by decide +kernel
theorem dX4_nearAfter_55 : decode cX4_nearAfter 55 = .ok (.invokevirtual 114, 3) := by decide +kernel
theorem dX4_nearAfter_58 : decode cX4_nearAfter 58 = .ok (.iadd, 1) := by decide +kernel
theorem dX4_nearAfter_59 : decode cX4_nearAfter 59 = .ok (.istore_n 3, 1) := by decide +kernel
theorem dX4_nearAfter_60 : decode cX4_nearAfter 60 = .ok (.iinc 4 1, 3) := by decide +kernel
theorem dX4_nearAfter_63 : decode cX4_nearAfter 63 = .ok (.goto (-43), 3) := by decide +kernel
theorem dX4_nearAfter_66 : decode cX4_nearAfter 66 = .ok (.iload_n 3, 1) := by decide +kernel
theorem dX4_nearAfter_67 : decode cX4_nearAfter 67 = .ok (.aload_n 0, 1) := by decide +kernel
theorem dX4_nearAfter_68 : decode cX4_nearAfter 68 = .ok (.getfield 51, 3) := by decide +kernel
theorem dX4_nearAfter_71 : decode cX4_nearAfter 71 = .ok (.iconst 1, 1) := by decide +kernel
theorem dX4_nearAfter_72 : decode cX4_nearAfter 72 = .ok (.isub, 1) := by decide +kernel
theorem dX4_nearAfter_73 : decode cX4_nearAfter 73 = .ok (.idiv, 1) := by decide +kernel
theorem dX4_nearAfter_74 : decode cX4_nearAfter 74 = .ok (.ireturn, 1) := by decide +kernel
theorem dX4_pass_0 : decode cX4_pass 0 = .ok (.iconst 0, 1) := by decide +kernel
theorem dX4_pass_1 : decode cX4_pass 1 = .ok (.istore_n 2, 1) := by decide +kernel
theorem dX4_pass_2 : decode cX4_pass 2 = .ok (.iconst 0, 1) := by decide +kernel
theorem dX4_pass_3 : decode cX4_pass 3 = .ok (.istore_n 3, 1) := by decide +kernel
theorem dX4_pass_4 : decode cX4_pass 4 = .ok (.iload_n 3, 1) := by decide +kernel
theorem dX4_pass_5 : decode cX4_pass 5 = .ok (.aload_n 0, 1) := by decide +kernel
theorem dX4_pass_6 : decode cX4_pass 6 = .ok (.getfield 51, 3) := by decide +kernel
theorem dX4_pass_9 : decode cX4_pass 9 = .ok (.if_icmp .ge 71, 3) := by decide +kernel
theorem dX4_pass_12 : decode cX4_pass 12 = .ok (.aload_n 0, 1) := by decide +kernel
theorem dX4_pass_13 : decode cX4_pass 13 = .ok (.iload_n 3, 1) := by decide +kernel
theorem dX4_pass_14 : decode cX4_pass 14 = .ok (.aload_n 1, 1) := by decide +kernel
theorem dX4_pass_15 : decode cX4_pass 15 = .ok (.invokevirtual 117, 3) := by decide +kernel
theorem dX4_pass_18 : decode cX4_pass 18 = .ok (.istore 4, 2) := by decide +kernel
theorem dX4_pass_20 : decode cX4_pass 20 = .ok (.aload_n 0, 1) := by decide +kernel
theorem dX4_pass_21 : decode cX4_pass 21 = .ok (.iload_n 3, 1) := by decide +kernel
theorem dX4_pass_22 : decode cX4_pass 22 = .ok (.aload_n 1, 1) := by decide +kernel
theorem dX4_pass_23 : decode cX4_pass 23 = .ok (.invokevirtual 121, 3) := by decide +kernel
theorem dX4_pass_26 : decode cX4_pass 26 = .ok (.istore 5, 2) := by decide +kernel
theorem dX4_pass_28 : decode cX4_pass 28 = .ok (.iload_n 2, 1) := by decide +kernel
theorem dX4_pass_29 : decode cX4_pass 29 = .ok (.iload 4, 2) := by decide +kernel
theorem dX4_pass_31 : decode cX4_pass 31 = .ok (.aload_n 1, 1) := by decide +kernel
theorem dX4_pass_32 : decode cX4_pass 32 = .ok (.getfield 79, 3) := by decide +kernel
theorem dX4_pass_35 : decode cX4_pass 35 = .ok (.iload_n 3, 1) := by decide +kernel
theorem dX4_pass_36 : decode cX4_pass 36 = .ok (.iaload, 1) := by decide +kernel
theorem dX4_pass_37 : decode cX4_pass 37 = .ok (.if_icmp .ne 14, 3) := by decide +kernel
theorem dX4_pass_40 : decode cX4_pass 40 = .ok (.iload 5, 2) := by decide +kernel
theorem dX4_pass_42 : decode cX4_pass 42 = .ok (.aload_n 1, 1) := by decide +kernel
theorem dX4_pass_43 : decode cX4_pass 43 = .ok (.getfield 82, 3) := by decide +kernel
theorem dX4_pass_46 : decode cX4_pass 46 = .ok (.iload_n 3, 1) := by decide +kernel
theorem dX4_pass_47 : decode cX4_pass 47 = .ok (.iaload, 1) := by decide +kernel
theorem dX4_pass_48 : decode cX4_pass 48 = .ok (.if_icmp .eq 7, 3) := by decide +kernel
theorem dX4_pass_51 : decode cX4_pass 51 = .ok (.iconst 1, 1) := by decide +kernel
theorem dX4_pass_52 : decode cX4_pass 52 = .ok (.goto 4, 3) := by decide +kernel
theorem dX4_pass_55 : decode cX4_pass 55 = .ok (.iconst 0, 1) := by decide +kernel
theorem dX4_pass_56 : decode cX4_pass 56 = .ok (.ior, 1) := by decide +kernel
theorem dX4_pass_57 : decode cX4_pass 57 = .ok (.istore_n 2, 1) := by decide +kernel
theorem dX4_pass_58 : decode cX4_pass 58 = .ok (.aload_n 1, 1) := by decide +kernel
theorem dX4_pass_59 : decode cX4_pass 59 = .ok (.getfield 79, 3) := by decide +kernel
theorem dX4_pass_62 : decode cX4_pass 62 = .ok (.iload_n 3, 1) := by decide +kernel
theorem dX4_pass_63 : decode cX4_pass 63 = .ok (.iload 4, 2) := by decide +kernel
theorem dX4_pass_65 : decode cX4_pass 65 = .ok (.iastore, 1) := by decide +kernel
theorem dX4_pass_66 : decode cX4_pass 66 = .ok (.aload_n 1, 1) := by decide +kernel
theorem dX4_pass_67 : decode cX4_pass 67 = .ok (.getfield 82, 3) := by decide +kernel
theorem dX4_pass_70 : decode cX4_pass 70 = .ok (.iload_n 3, 1) := by decide +kernel
theorem dX4_pass_71 : decode cX4_pass 71 = .ok (.iload 5, 2) := by decide +kernel
theorem dX4_pass_73 : decode cX4_pass 73 = .ok (.iastore, 1) := by decide +kernel
theorem dX4_pass_74 : decode cX4_pass 74 = .ok (.iinc 3 1, 3) := by decide +kernel
theorem dX4_pass_77 : decode cX4_pass 77 = .ok (.goto (-73), 3) := by decide +kernel
theorem dX4_pass_80 : decode cX4_pass 80 = .ok (.aload_n 1, 1) := by decide +kernel
theorem dX4_pass_81 : decode cX4_pass 81 = .ok (.dup, 1) := by decide +kernel
theorem dX4_pass_82 : decode cX4_pass 82 = .ok (.getfield 107, 3) := by decide +kernel
theorem dX4_pass_85 : decode cX4_pass 85 = .ok (.iconst 1, 1) := by decide +kernel
theorem dX4_pass_86 : decode cX4_pass 86 = .ok (.iadd, 1) := by decide +kernel
theorem dX4_pass_87 : decode cX4_pass 87 = .ok (.putfield 107, 3) := by decide +kernel
theorem dX4_pass_90 : decode cX4_pass 90 = .ok (.iload_n 2, 1) := by decide +kernel
theorem dX4_pass_91 : decode cX4_pass 91 = .ok (.ireturn, 1) := by decide +kernel
theorem dX4_nearestIn_0 : decode cX4_nearestIn 0 = .ok (.iconst (-1), 1) := by decide +kernel
theorem dX4_nearestIn_1 : decode cX4_nearestIn 1 = .ok (.istore_n 2, 1) := by decide +kernel
theorem dX4_nearestIn_2 : decode cX4_nearestIn 2 = .ok (.iconst 0, 1) := by decide +kernel
theorem dX4_nearestIn_3 : decode cX4_nearestIn 3 = .ok (.istore_n 3, 1) := by decide +kernel
theorem dX4_nearestIn_4 : decode cX4_nearestIn 4 = .ok (.iload_n 3, 1) := by decide +kernel
theorem dX4_nearestIn_5 : decode cX4_nearestIn 5 = .ok (.aload_n 0, 1) := by decide +kernel
theorem dX4_nearestIn_6 : decode cX4_nearestIn 6 = .ok (.getfield 51, 3) := by decide +kernel
theorem dX4_nearestIn_9 : decode cX4_nearestIn 9 = .ok (.if_icmp .ge 30, 3) := by decide +kernel
theorem dX4_nearestIn_12 : decode cX4_nearestIn 12 = .ok (.iload_n 2, 1) := by decide +kernel
theorem dX4_nearestIn_13 : decode cX4_nearestIn 13 = .ok (.ifCond .lt 18, 3) := by decide +kernel
theorem dX4_nearestIn_16 : decode cX4_nearestIn 16 = .ok (.aload_n 1, 1) := by decide +kernel
theorem dX4_nearestIn_17 : decode cX4_nearestIn 17 = .ok (.getfield 79, 3) := by decide +kernel
theorem dX4_nearestIn_20 : decode cX4_nearestIn 20 = .ok (.iload_n 3, 1) := by decide +kernel
theorem dX4_nearestIn_21 : decode cX4_nearestIn 21 = .ok (.iaload, 1) := by decide +kernel
theorem dX4_nearestIn_22 : decode cX4_nearestIn 22 = .ok (.aload_n 1, 1) := by decide +kernel
theorem dX4_nearestIn_23 : decode cX4_nearestIn 23 = .ok (.getfield 79, 3) := by decide +kernel
theorem dX4_nearestIn_26 : decode cX4_nearestIn 26 = .ok (.iload_n 2, 1) := by decide +kernel
theorem dX4_nearestIn_27 : decode cX4_nearestIn 27 = .ok (.iaload, 1) := by decide +kernel
theorem dX4_nearestIn_28 : decode cX4_nearestIn 28 = .ok (.if_icmp .le 5, 3) := by decide +kernel
theorem dX4_nearestIn_31 : decode cX4_nearestIn 31 = .ok (.iload_n 3, 1) := by decide +kernel
theorem dX4_nearestIn_32 : decode cX4_nearestIn 32 = .ok (.istore_n 2, 1) := by decide +kernel
theorem dX4_nearestIn_33 : decode cX4_nearestIn 33 = .ok (.iinc 3 1, 3) := by decide +kernel
theorem dX4_nearestIn_36 : decode cX4_nearestIn 36 = .ok (.goto (-32), 3) := by decide +kernel
theorem dX4_nearestIn_39 : decode cX4_nearestIn 39 = .ok (.iload_n 2, 1) := by decide +kernel
theorem dX4_nearestIn_40 : decode cX4_nearestIn 40 = .ok (.ireturn, 1) := by decide +kernel
theorem dX4_countNearer_0 : decode cX4_countNearer 0 = .ok (.iconst 0, 1) := by decide +kernel
theorem dX4_countNearer_1 : decode cX4_countNearer 1 = .ok (.istore_n 2, 1) := by decide +kernel
theorem dX4_countNearer_2 : decode cX4_countNearer 2 = .ok (.iconst 0, 1) := by decide +kernel
theorem dX4_countNearer_3 : decode cX4_countNearer 3 = .ok (.istore_n 3, 1) := by decide +kernel
theorem dX4_countNearer_4 : decode cX4_countNearer 4 = .ok (.iload_n 3, 1) := by decide +kernel
theorem dX4_countNearer_5 : decode cX4_countNearer 5 = .ok (.aload_n 0, 1) := by decide +kernel
theorem dX4_countNearer_6 : decode cX4_countNearer 6 = .ok (.getfield 51, 3) := by decide +kernel
theorem dX4_countNearer_9 : decode cX4_countNearer 9 = .ok (.if_icmp .ge 33, 3) := by decide +kernel
theorem dX4_countNearer_12 : decode cX4_countNearer 12 = .ok (.aload_n 0, 1) := by decide +kernel
theorem dX4_countNearer_13 : decode cX4_countNearer 13 = .ok (.getfield 24, 3) := by decide +kernel
theorem dX4_countNearer_16 : decode cX4_countNearer 16 = .ok (.getfield 79, 3) := by decide +kernel
theorem dX4_countNearer_19 : decode cX4_countNearer 19 = .ok (.iload_n 3, 1) := by decide +kernel
theorem dX4_countNearer_20 : decode cX4_countNearer 20 = .ok (.iaload, 1) := by decide +kernel
theorem dX4_countNearer_21 : decode cX4_countNearer 21 = .ok (.aload_n 0, 1) := by decide +kernel
theorem dX4_countNearer_22 : decode cX4_countNearer 22 = .ok (.getfield 24, 3) := by decide +kernel
theorem dX4_countNearer_25 : decode cX4_countNearer 25 = .ok (.getfield 79, 3) := by decide +kernel
theorem dX4_countNearer_28 : decode cX4_countNearer 28 = .ok (.iload_n 1, 1) := by decide +kernel
theorem dX4_countNearer_29 : decode cX4_countNearer 29 = .ok (.iaload, 1) := by decide +kernel
theorem dX4_countNearer_30 : decode cX4_countNearer 30 = .ok (.if_icmp .le 6, 3) := by decide +kernel
theorem dX4_countNearer_33 : decode cX4_countNearer 33 = .ok (.iinc 2 1, 3) := by decide +kernel
theorem dX4_countNearer_36 : decode cX4_countNearer 36 = .ok (.iinc 3 1, 3) := by decide +kernel
theorem dX4_countNearer_39 : decode cX4_countNearer 39 = .ok (.goto (-35), 3) := by decide +kernel
theorem dX4_countNearer_42 : decode cX4_countNearer 42 = .ok (.iload_n 2, 1) := by decide +kernel
theorem dX4_countNearer_43 : decode cX4_countNearer 43 = .ok (.ireturn, 1) := by decide +kernel
theorem dX4_countTakenNearer_0 : decode cX4_countTakenNearer 0 = .ok (.iconst 0, 1) := by decide +kernel
theorem dX4_countTakenNearer_1 : decode cX4_countTakenNearer 1 = .ok (.istore_n 2, 1) := by decide +kernel
theorem dX4_countTakenNearer_2 : decode cX4_countTakenNearer 2 = .ok (.iconst 0, 1) := by decide +kernel
theorem dX4_countTakenNearer_3 : decode cX4_countTakenNearer 3 = .ok (.istore_n 3, 1) := by decide +kernel
theorem dX4_countTakenNearer_4 : decode cX4_countTakenNearer 4 = .ok (.iload_n 3, 1) := by decide +kernel
theorem dX4_countTakenNearer_5 : decode cX4_countTakenNearer 5 = .ok (.aload_n 0, 1) := by decide +kernel
theorem dX4_countTakenNearer_6 : decode cX4_countTakenNearer 6 = .ok (.getfield 51, 3) := by decide +kernel
theorem dX4_countTakenNearer_9 : decode cX4_countTakenNearer 9 = .ok (.if_icmp .ge 59, 3) := by decide +kernel
theorem dX4_countTakenNearer_12 : decode cX4_countTakenNearer 12 = .ok (.iload_n 3, 1) := by decide +kernel
theorem dX4_countTakenNearer_13 : decode cX4_countTakenNearer 13 = .ok (.iload_n 1, 1) := by decide +kernel
theorem dX4_countTakenNearer_14 : decode cX4_countTakenNearer 14 = .ok (.if_icmp .eq 48, 3) := by decide +kernel
theorem dX4_countTakenNearer_17 : decode cX4_countTakenNearer 17 = .ok (.aload_n 0, 1) := by decide +kernel
theorem dX4_countTakenNearer_18 : decode cX4_countTakenNearer 18 = .ok (.iload_n 3, 1) := by decide +kernel
theorem dX4_countTakenNearer_19 : decode cX4_countTakenNearer 19 = .ok (.aload_n 0, 1) := by decide +kernel
theorem dX4_countTakenNearer_20 : decode cX4_countTakenNearer 20 = .ok (.getfield 24, 3) := by decide +kernel
theorem dX4_countTakenNearer_23 : decode cX4_countTakenNearer 23 = .ok (.getfield 79, 3) := by decide +kernel
theorem dX4_countTakenNearer_26 : decode cX4_countTakenNearer 26 = .ok (.iload_n 1, 1) := by decide +kernel
theorem dX4_countTakenNearer_27 : decode cX4_countTakenNearer 27 = .ok (.iaload, 1) := by decide +kernel
theorem dX4_countTakenNearer_28 : decode cX4_countTakenNearer 28 = .ok (.aload_n 0, 1) := by decide +kernel
theorem dX4_countTakenNearer_29 : decode cX4_countTakenNearer 29 = .ok (.getfield 24, 3) := by decide +kernel
theorem dX4_countTakenNearer_32 : decode cX4_countTakenNearer 32 = .ok (.getfield 82, 3) := by decide +kernel
theorem dX4_countTakenNearer_35 : decode cX4_countTakenNearer 35 = .ok (.iload_n 1, 1) := by decide +kernel
theorem dX4_countTakenNearer_36 : decode cX4_countTakenNearer 36 = .ok (.iaload, 1) := by decide +kernel
theorem dX4_countTakenNearer_37 : decode cX4_countTakenNearer 37 = .ok (.aload_n 0, 1) := by decide +kernel
theorem dX4_countTakenNearer_38 : decode cX4_countTakenNearer 38 = .ok (.getfield 24, 3) := by decide +kernel
theorem dX4_countTakenNearer_41 : decode cX4_countTakenNearer 41 = .ok (.getfield 107, 3) := by decide +kernel
theorem dX4_countTakenNearer_44 : decode cX4_countTakenNearer 44 = .ok (.invokevirtual 114, 3) := by decide +kernel
theorem dX4_countTakenNearer_47 : decode cX4_countTakenNearer 47 = .ok (.aload_n 0, 1) := by decide +kernel
theorem dX4_countTakenNearer_48 : decode cX4_countTakenNearer 48 = .ok (.getfield 24, 3) := by decide +kernel
theorem dX4_countTakenNearer_51 : decode cX4_countTakenNearer 51 = .ok (.getfield 79, 3) := by decide +kernel
theorem dX4_countTakenNearer_54 : decode cX4_countTakenNearer 54 = .ok (.iload_n 1, 1) := by decide +kernel
theorem dX4_countTakenNearer_55 : decode cX4_countTakenNearer 55 = .ok (.iaload, 1) := by decide +kernel
theorem dX4_countTakenNearer_56 : decode cX4_countTakenNearer 56 = .ok (.if_icmp .le 6, 3) := by decide +kernel
theorem dX4_countTakenNearer_59 : decode cX4_countTakenNearer 59 = .ok (.iinc 2 1, 3) := by decide +kernel
theorem dX4_countTakenNearer_62 : decode cX4_countTakenNearer 62 = .ok (.iinc 3 1, 3) := by decide +kernel
theorem dX4_countTakenNearer_65 : decode cX4_countTakenNearer 65 = .ok (.goto (-61), 3) := by decide +kernel
theorem dX4_countTakenNearer_68 : decode cX4_countTakenNearer 68 = .ok (.iload_n 2, 1) := by decide +kernel
theorem dX4_countTakenNearer_69 : decode cX4_countTakenNearer 69 = .ok (.ireturn, 1) := by decide +kernel
theorem dX4_comeToFrom_0 : decode cX4_comeToFrom 0 = .ok (.iconst 1, 1) := by decide +kernel
theorem dX4_comeToFrom_1 : decode cX4_comeToFrom 1 = .ok (.iload_n 1, 1) := by decide +kernel
theorem dX4_comeToFrom_2 : decode cX4_comeToFrom 2 = .ok (.ishl, 1) := by decide +kernel
theorem dX4_comeToFrom_3 : decode cX4_comeToFrom 3 = .ok (.istore_n 2, 1) := by decide +kernel
theorem dX4_comeToFrom_4 : decode cX4_comeToFrom 4 = .ok (.iconst 0, 1) := by decide +kernel
theorem dX4_comeToFrom_5 : decode cX4_comeToFrom 5 = .ok (.istore_n 3, 1) := by decide +kernel
theorem dX4_comeToFrom_6 : decode cX4_comeToFrom 6 = .ok (.iload_n 3, 1) := by decide +kernel
theorem dX4_comeToFrom_7 : decode cX4_comeToFrom 7 = .ok (.aload_n 0, 1) := by decide +kernel
theorem dX4_comeToFrom_8 : decode cX4_comeToFrom 8 = .ok (.getfield 51, 3) := by decide +kernel
theorem dX4_comeToFrom_11 : decode cX4_comeToFrom 11 = .ok (.if_icmp .ge 46, 3) := by decide +kernel
theorem dX4_comeToFrom_14 : decode cX4_comeToFrom 14 = .ok (.iconst 0, 1) := by decide +kernel
theorem dX4_comeToFrom_15 : decode cX4_comeToFrom 15 = .ok (.istore 4, 2) := by decide +kernel
theorem dX4_comeToFrom_17 : decode cX4_comeToFrom 17 = .ok (.iload 4, 2) := by decide +kernel
theorem dX4_comeToFrom_19 : decode cX4_comeToFrom 19 = .ok (.aload_n 0, 1) := by decide +kernel
theorem dX4_comeToFrom_20 : decode cX4_comeToFrom 20 = .ok (.getfield 51, 3) := by decide +kernel
theorem dX4_comeToFrom_23 : decode cX4_comeToFrom 23 = .ok (.if_icmp .ge 28, 3) := by decide +kernel
theorem dX4_comeToFrom_26 : decode cX4_comeToFrom 26 = .ok (.iload_n 2, 1) := by decide +kernel
theorem dX4_comeToFrom_27 : decode cX4_comeToFrom 27 = .ok (.iload 4, 2) := by decide +kernel
theorem dX4_comeToFrom_29 : decode cX4_comeToFrom 29 = .ok (.ishr, 1) := by decide +kernel
theorem dX4_comeToFrom_30 : decode cX4_comeToFrom 30 = .ok (.iconst 1, 1) := by decide +kernel
theorem dX4_comeToFrom_31 : decode cX4_comeToFrom 31 = .ok (.iand, 1) := by decide +kernel
theorem dX4_comeToFrom_32 : decode cX4_comeToFrom 32 = .ok (.ifCond .eq 13, 3) := by decide +kernel
theorem dX4_comeToFrom_35 : decode cX4_comeToFrom 35 = .ok (.iload_n 2, 1) := by decide +kernel
theorem dX4_comeToFrom_36 : decode cX4_comeToFrom 36 = .ok (.aload_n 0, 1) := by decide +kernel
theorem dX4_comeToFrom_37 : decode cX4_comeToFrom 37 = .ok (.getfield 18, 3) := by decide +kernel
theorem dX4_comeToFrom_40 : decode cX4_comeToFrom 40 = .ok (.iload 4, 2) := by decide +kernel
theorem dX4_comeToFrom_42 : decode cX4_comeToFrom 42 = .ok (.iaload, 1) := by decide +kernel
theorem dX4_comeToFrom_43 : decode cX4_comeToFrom 43 = .ok (.ior, 1) := by decide +kernel
theorem dX4_comeToFrom_44 : decode cX4_comeToFrom 44 = .ok (.istore_n 2, 1) := by decide +kernel
theorem dX4_comeToFrom_45 : decode cX4_comeToFrom 45 = .ok (.iinc 4 1, 3) := by decide +kernel
theorem dX4_comeToFrom_48 : decode cX4_comeToFrom 48 = .ok (.goto (-31), 3) := by decide +kernel
theorem dX4_comeToFrom_51 : decode cX4_comeToFrom 51 = .ok (.iinc 3 1, 3) := by decide +kernel
theorem dX4_comeToFrom_54 : decode cX4_comeToFrom 54 = .ok (.goto (-48), 3) := by decide +kernel
theorem dX4_comeToFrom_57 : decode cX4_comeToFrom 57 = .ok (.iload_n 2, 1) := by decide +kernel
theorem dX4_comeToFrom_58 : decode cX4_comeToFrom 58 = .ok (.ireturn, 1) := by decide +kernel
theorem dX4_readsOf_0 : decode cX4_readsOf 0 = .ok (.bipush 10, 2) := by decide +kernel
theorem dX4_readsOf_2 : decode cX4_readsOf 2 = .ok (.iload_n 3, 1) := by decide +kernel
theorem dX4_readsOf_3 : decode cX4_readsOf 3 = .ok (.imul, 1) := by decide +kernel
theorem dX4_readsOf_4 : decode cX4_readsOf 4 = .ok (.istore 5, 2) := by decide +kernel
theorem dX4_readsOf_6 : decode cX4_readsOf 6 = .ok (.iload_n 0, 1) := by decide +kernel
theorem dX4_readsOf_7 : decode cX4_readsOf 7 = .ok (.tableswitch 89 1 6 #[37, 44, 51, 57, 70, 75], 37) := by decide +kernel
theorem dX4_readsOf_44 : decode cX4_readsOf 44 = .ok (.iload 5, 2) := by decide +kernel
theorem dX4_readsOf_46 : decode cX4_readsOf 46 = .ok (.iconst 5, 1) := by decide +kernel
theorem dX4_readsOf_47 : decode cX4_readsOf 47 = .ok (.iadd, 1) := by decide +kernel
theorem dX4_readsOf_48 : decode cX4_readsOf 48 = .ok (.iload_n 1, 1) := by decide +kernel
theorem dX4_readsOf_49 : decode cX4_readsOf 49 = .ok (.iadd, 1) := by decide +kernel
theorem dX4_readsOf_50 : decode cX4_readsOf 50 = .ok (.ireturn, 1) := by decide +kernel
theorem dX4_readsOf_51 : decode cX4_readsOf 51 = .ok (.iload 5, 2) := by decide +kernel
theorem dX4_readsOf_53 : decode cX4_readsOf 53 = .ok (.iload_n 2, 1) := by decide +kernel
theorem dX4_readsOf_54 : decode cX4_readsOf 54 = .ok (.iadd, 1) := by decide +kernel
theorem dX4_readsOf_55 : decode cX4_readsOf 55 = .ok (.iconst 2, 1) := by decide +kernel
theorem dX4_readsOf_56 : decode cX4_readsOf 56 = .ok (.idiv, 1) := by decide +kernel
theorem dX4_readsOf_57 : decode cX4_readsOf 57 = .ok (.ireturn, 1) := by decide +kernel
theorem dX4_readsOf_58 : decode cX4_readsOf 58 = .ok (.bipush 99, 2) := by decide +kernel
theorem dX4_readsOf_60 : decode cX4_readsOf 60 = .ok (.iload 5, 2) := by decide +kernel
theorem dX4_readsOf_62 : decode cX4_readsOf 62 = .ok (.isub, 1) := by decide +kernel
theorem dX4_readsOf_63 : decode cX4_readsOf 63 = .ok (.ireturn, 1) := by decide +kernel
theorem dX4_readsOf_64 : decode cX4_readsOf 64 = .ok (.iload 5, 2) := by decide +kernel
theorem dX4_readsOf_66 : decode cX4_readsOf 66 = .ok (.iconst 5, 1) := by decide +kernel
theorem dX4_readsOf_67 : decode cX4_readsOf 67 = .ok (.iadd, 1) := by decide +kernel
theorem dX4_readsOf_68 : decode cX4_readsOf 68 = .ok (.iload_n 1, 1) := by decide +kernel
theorem dX4_readsOf_69 : decode cX4_readsOf 69 = .ok (.iadd, 1) := by decide +kernel
theorem dX4_readsOf_70 : decode cX4_readsOf 70 = .ok (.iload 4, 2) := by decide +kernel
theorem dX4_readsOf_72 : decode cX4_readsOf 72 = .ok (.bipush 7, 2) := by decide +kernel
theorem dX4_readsOf_74 : decode cX4_readsOf 74 = .ok (.irem, 1) := by decide +kernel
theorem dX4_readsOf_75 : decode cX4_readsOf 75 = .ok (.iadd, 1) := by decide +kernel
theorem dX4_readsOf_76 : decode cX4_readsOf 76 = .ok (.ireturn, 1) := by decide +kernel
theorem dX4_readsOf_77 : decode cX4_readsOf 77 = .ok (.bipush 11, 2) := by decide +kernel
theorem dX4_readsOf_79 : decode cX4_readsOf 79 = .ok (.iload_n 1, 1) := by decide +kernel
theorem dX4_readsOf_80 : decode cX4_readsOf 80 = .ok (.imul, 1) := by decide +kernel
theorem dX4_readsOf_81 : decode cX4_readsOf 81 = .ok (.ireturn, 1) := by decide +kernel
theorem dX4_readsOf_82 : decode cX4_readsOf 82 = .ok (.iload_n 3, 1) := by decide +kernel
theorem dX4_readsOf_83 : decode cX4_readsOf 83 = .ok (.ifCond .ne 10, 3) := by decide +kernel
theorem dX4_readsOf_86 : decode cX4_readsOf 86 = .ok (.bipush 90, 2) := by decide +kernel
theorem dX4_readsOf_88 : decode cX4_readsOf 88 = .ok (.iload_n 1, 1) := by decide +kernel
theorem dX4_readsOf_89 : decode cX4_readsOf 89 = .ok (.isub, 1) := by decide +kernel
theorem dX4_readsOf_90 : decode cX4_readsOf 90 = .ok (.goto 5, 3) := by decide +kernel
theorem dX4_readsOf_93 : decode cX4_readsOf 93 = .ok (.iload 5, 2) := by decide +kernel
theorem dX4_readsOf_95 : decode cX4_readsOf 95 = .ok (.ireturn, 1) := by decide +kernel
theorem dX4_readsOf_96 : decode cX4_readsOf 96 = .ok (.iload 5, 2) := by decide +kernel
theorem dX4_readsOf_98 : decode cX4_readsOf 98 = .ok (.ireturn, 1) := by decide +kernel
theorem dX4_tellsOf_0 : decode cX4_tellsOf 0 = .ok (.iload_n 2, 1) := by decide +kernel
theorem dX4_tellsOf_1 : decode cX4_tellsOf 1 = .ok (.iload_n 1, 1) := by decide +kernel
end
section
theorem dX4_tellsOf_2 : decode cX4_tellsOf 2 = .ok (.bipush 50, 2) := by decide +kernel
theorem dX4_tellsOf_4 : decode cX4_tellsOf 4 = .ok (.if_icmp .le 7, 3) := by decide +kernel
theorem dX4_tellsOf_7 : decode cX4_tellsOf 7 = .ok (.iconst 1, 1) := by decide +kernel
theorem dX4_tellsOf_8 : decode cX4_tellsOf 8 = .ok (.goto 4, 3) := by decide +kernel
theorem dX4_tellsOf_11 : decode cX4_tellsOf 11 = .ok (.iconst 0, 1) := by decide +kernel
theorem dX4_tellsOf_12 : decode cX4_tellsOf 12 = .ok (.iadd, 1) := by decide +kernel
theorem dX4_tellsOf_13 : decode cX4_tellsOf 13 = .ok (.istore 4, 2) := by decide +kernel
theorem dX4_tellsOf_15 : decode cX4_tellsOf 15 = .ok (.iload_n 0, 1) := by decide +kernel
theorem dX4_tellsOf_16 : decode cX4_tellsOf 16 = .ok (.tableswitch 69 1 6 #[40, 43, 69, 47, 62, 67], 40) := by decide +kernel
theorem dX4_tellsOf_56 : decode cX4_tellsOf 56 = .ok (.iload 4, 2) := by decide +kernel
theorem dX4_tellsOf_58 : decode cX4_tellsOf 58 = .ok (.ireturn, 1) := by decide +kernel
theorem dX4_tellsOf_59 : decode cX4_tellsOf 59 = .ok (.iload_n 2, 1) := by decide +kernel
theorem dX4_tellsOf_60 : decode cX4_tellsOf 60 = .ok (.iconst 1, 1) := by decide +kernel
theorem dX4_tellsOf_61 : decode cX4_tellsOf 61 = .ok (.isub, 1) := by decide +kernel
theorem dX4_tellsOf_62 : decode cX4_tellsOf 62 = .ok (.ireturn, 1) := by decide +kernel
theorem dX4_tellsOf_63 : decode cX4_tellsOf 63 = .ok (.iload 4, 2) := by decide +kernel
theorem dX4_tellsOf_65 : decode cX4_tellsOf 65 = .ok (.iload_n 3, 1) := by decide +kernel
theorem dX4_tellsOf_66 : decode cX4_tellsOf 66 = .ok (.iconst 3, 1) := by decide +kernel
theorem dX4_tellsOf_67 : decode cX4_tellsOf 67 = .ok (.irem, 1) := by decide +kernel
theorem dX4_tellsOf_68 : decode cX4_tellsOf 68 = .ok (.ifCond .ne 7, 3) := by decide +kernel
theorem dX4_tellsOf_71 : decode cX4_tellsOf 71 = .ok (.iconst 1, 1) := by decide +kernel
theorem dX4_tellsOf_72 : decode cX4_tellsOf 72 = .ok (.goto 4, 3) := by decide +kernel
theorem dX4_tellsOf_75 : decode cX4_tellsOf 75 = .ok (.iconst 0, 1) := by decide +kernel
theorem dX4_tellsOf_76 : decode cX4_tellsOf 76 = .ok (.iadd, 1) := by decide +kernel
theorem dX4_tellsOf_77 : decode cX4_tellsOf 77 = .ok (.ireturn, 1) := by decide +kernel
theorem dX4_tellsOf_78 : decode cX4_tellsOf 78 = .ok (.iload_n 1, 1) := by decide +kernel
theorem dX4_tellsOf_79 : decode cX4_tellsOf 79 = .ok (.bipush 10, 2) := by decide +kernel
theorem dX4_tellsOf_81 : decode cX4_tellsOf 81 = .ok (.idiv, 1) := by decide +kernel
theorem dX4_tellsOf_82 : decode cX4_tellsOf 82 = .ok (.ireturn, 1) := by decide +kernel
theorem dX4_tellsOf_83 : decode cX4_tellsOf 83 = .ok (.iconst 0, 1) := by decide +kernel
theorem dX4_tellsOf_84 : decode cX4_tellsOf 84 = .ok (.ireturn, 1) := by decide +kernel
theorem dX4_tellsOf_85 : decode cX4_tellsOf 85 = .ok (.iload_n 2, 1) := by decide +kernel
theorem dX4_tellsOf_86 : decode cX4_tellsOf 86 = .ok (.ireturn, 1) := by decide +kernel
theorem dX5_init_0 : decode cX5_init 0 = .ok (.aload_n 0, 1) := by decide +kernel
theorem dX5_init_1 : decode cX5_init 1 = .ok (.invokespecial 3, 3) := by decide +kernel
theorem dX5_init_4 : decode cX5_init 4 = .ok (.aload_n 0, 1) := by decide +kernel
theorem dX5_init_5 : decode cX5_init 5 = .ok (.bipush 30, 2) := by decide +kernel
theorem dX5_init_7 : decode cX5_init 7 = .ok (.newarray .int, 2) := by decide +kernel
theorem dX5_init_9 : decode cX5_init 9 = .ok (.putfield 11, 3) := by decide +kernel
theorem dX5_init_12 : decode cX5_init 12 = .ok (.return_, 1) := by decide +kernel
theorem dX5_hear_0 : decode cX5_hear 0 = .ok (.aload_n 0, 1) := by decide +kernel
theorem dX5_hear_1 : decode cX5_hear 1 = .ok (.iload_n 1, 1) := by decide +kernel
theorem dX5_hear_2 : decode cX5_hear 2 = .ok (.putfield 15, 3) := by decide +kernel
theorem dX5_hear_5 : decode cX5_hear 5 = .ok (.aload_n 0, 1) := by decide +kernel
theorem dX5_hear_6 : decode cX5_hear 6 = .ok (.iload_n 2, 1) := by decide +kernel
theorem dX5_hear_7 : decode cX5_hear 7 = .ok (.putfield 19, 3) := by decide +kernel
theorem dX5_hear_10 : decode cX5_hear 10 = .ok (.aload_n 0, 1) := by decide +kernel
theorem dX5_hear_11 : decode cX5_hear 11 = .ok (.iload_n 3, 1) := by decide +kernel
theorem dX5_hear_12 : decode cX5_hear 12 = .ok (.putfield 22, 3) := by decide +kernel
theorem dX5_hear_15 : decode cX5_hear 15 = .ok (.aload_n 0, 1) := by decide +kernel
theorem dX5_hear_16 : decode cX5_hear 16 = .ok (.iconst 0, 1) := by decide +kernel
theorem dX5_hear_17 : decode cX5_hear 17 = .ok (.putfield 25, 3) := by decide +kernel
theorem dX5_hear_20 : decode cX5_hear 20 = .ok (.aload_n 0, 1) := by decide +kernel
theorem dX5_hear_21 : decode cX5_hear 21 = .ok (.iconst 0, 1) := by decide +kernel
theorem dX5_hear_22 : decode cX5_hear 22 = .ok (.putfield 28, 3) := by decide +kernel
theorem dX5_hear_25 : decode cX5_hear 25 = .ok (.aload_n 0, 1) := by decide +kernel
theorem dX5_hear_26 : decode cX5_hear 26 = .ok (.aload_n 0, 1) := by decide +kernel
theorem dX5_hear_27 : decode cX5_hear 27 = .ok (.getfield 19, 3) := by decide +kernel
theorem dX5_hear_30 : decode cX5_hear 30 = .ok (.iload 4, 2) := by decide +kernel
theorem dX5_hear_32 : decode cX5_hear 32 = .ok (.iload 5, 2) := by decide +kernel
theorem dX5_hear_34 : decode cX5_hear 34 = .ok (.iconst 0, 1) := by decide +kernel
theorem dX5_hear_35 : decode cX5_hear 35 = .ok (.invokevirtual 32, 3) := by decide +kernel
theorem dX5_hear_38 : decode cX5_hear 38 = .ok (.ireturn, 1) := by decide +kernel
theorem dX5_speak_0 : decode cX5_speak 0 = .ok (.iload_n 1, 1) := by decide +kernel
theorem dX5_speak_1 : decode cX5_speak 1 = .ok (.istore 5, 2) := by decide +kernel
theorem dX5_speak_3 : decode cX5_speak 3 = .ok (.iload 5, 2) := by decide +kernel
theorem dX5_speak_5 : decode cX5_speak 5 = .ok (.ifCond .lt 25, 3) := by decide +kernel
theorem dX5_speak_8 : decode cX5_speak 8 = .ok (.iload 5, 2) := by decide +kernel
theorem dX5_speak_10 : decode cX5_speak 10 = .ok (.bipush 7, 2) := by decide +kernel
theorem dX5_speak_12 : decode cX5_speak 12 = .ok (.if_icmp .ge 18, 3) := by decide +kernel
theorem dX5_speak_15 : decode cX5_speak 15 = .ok (.iload_n 2, 1) := by decide +kernel
theorem dX5_speak_16 : decode cX5_speak 16 = .ok (.iconst 3, 1) := by decide +kernel
theorem dX5_speak_17 : decode cX5_speak 17 = .ok (.invokestatic 36, 3) := by decide +kernel
theorem dX5_speak_20 : decode cX5_speak 20 = .ok (.ifCond .eq 10, 3) := by decide +kernel
theorem dX5_speak_23 : decode cX5_speak 23 = .ok (.iload 4, 2) := by decide +kernel
theorem dX5_speak_25 : decode cX5_speak 25 = .ok (.bipush 20, 2) := by decide +kernel
theorem dX5_speak_27 : decode cX5_speak 27 = .ok (.if_icmp .le 5, 3) := by decide +kernel
theorem dX5_speak_30 : decode cX5_speak 30 = .ok (.iconst 0, 1) := by decide +kernel
theorem dX5_speak_31 : decode cX5_speak 31 = .ok (.ireturn, 1) := by decide +kernel
theorem dX5_speak_32 : decode cX5_speak 32 = .ok (.iconst 0, 1) := by decide +kernel
theorem dX5_speak_33 : decode cX5_speak 33 = .ok (.istore 6, 2) := by decide +kernel
theorem dX5_speak_35 : decode cX5_speak 35 = .ok (.iload 6, 2) := by decide +kernel
theorem dX5_speak_37 : decode cX5_speak 37 = .ok (.bipush 7, 2) := by decide +kernel
theorem dX5_speak_39 : decode cX5_speak 39 = .ok (.if_icmp .ge 35, 3) := by decide +kernel
theorem dX5_speak_42 : decode cX5_speak 42 = .ok (.iload 5, 2) := by decide +kernel
theorem dX5_speak_44 : decode cX5_speak 44 = .ok (.ifCond .le 30, 3) := by decide +kernel
theorem dX5_speak_47 : decode cX5_speak 47 = .ok (.getstatic 40, 3) := by decide +kernel
theorem dX5_speak_50 : decode cX5_speak 50 = .ok (.iload 5, 2) := by decide +kernel
theorem dX5_speak_52 : decode cX5_speak 52 = .ok (.iconst 4, 1) := by decide +kernel
theorem dX5_speak_53 : decode cX5_speak 53 = .ok (.imul, 1) := by decide +kernel
theorem dX5_speak_54 : decode cX5_speak 54 = .ok (.iload_n 2, 1) := by decide +kernel
theorem dX5_speak_55 : decode cX5_speak 55 = .ok (.iadd, 1) := by decide +kernel
theorem dX5_speak_56 : decode cX5_speak 56 = .ok (.iaload, 1) := by decide +kernel
theorem dX5_speak_57 : decode cX5_speak 57 = .ok (.ifCond .ne 17, 3) := by decide +kernel
theorem dX5_speak_60 : decode cX5_speak 60 = .ok (.getstatic 43, 3) := by decide +kernel
theorem dX5_speak_63 : decode cX5_speak 63 = .ok (.iload 5, 2) := by decide +kernel
theorem dX5_speak_65 : decode cX5_speak 65 = .ok (.iaload, 1) := by decide +kernel
theorem dX5_speak_66 : decode cX5_speak 66 = .ok (.istore 5, 2) := by decide +kernel
theorem dX5_speak_68 : decode cX5_speak 68 = .ok (.iinc 6 1, 3) := by decide +kernel
theorem dX5_speak_71 : decode cX5_speak 71 = .ok (.goto (-36), 3) := by decide +kernel
theorem dX5_speak_74 : decode cX5_speak 74 = .ok (.getstatic 40, 3) := by decide +kernel
theorem dX5_speak_77 : decode cX5_speak 77 = .ok (.iload 5, 2) := by decide +kernel
theorem dX5_speak_79 : decode cX5_speak 79 = .ok (.iconst 4, 1) := by decide +kernel
theorem dX5_speak_80 : decode cX5_speak 80 = .ok (.imul, 1) := by decide +kernel
theorem dX5_speak_81 : decode cX5_speak 81 = .ok (.iload_n 2, 1) := by decide +kernel
theorem dX5_speak_82 : decode cX5_speak 82 = .ok (.iadd, 1) := by decide +kernel
theorem dX5_speak_83 : decode cX5_speak 83 = .ok (.iaload, 1) := by decide +kernel
theorem dX5_speak_84 : decode cX5_speak 84 = .ok (.istore 6, 2) := by decide +kernel
theorem dX5_speak_86 : decode cX5_speak 86 = .ok (.aload_n 0, 1) := by decide +kernel
theorem dX5_speak_87 : decode cX5_speak 87 = .ok (.getfield 25, 3) := by decide +kernel
theorem dX5_speak_90 : decode cX5_speak 90 = .ok (.bipush 30, 2) := by decide +kernel
theorem dX5_speak_92 : decode cX5_speak 92 = .ok (.if_icmp .ge 24, 3) := by decide +kernel
theorem dX5_speak_95 : decode cX5_speak 95 = .ok (.aload_n 0, 1) := by decide +kernel
theorem dX5_speak_96 : decode cX5_speak 96 = .ok (.getfield 11, 3) := by decide +kernel
theorem dX5_speak_99 : decode cX5_speak 99 = .ok (.aload_n 0, 1) := by decide +kernel
theorem dX5_speak_100 : decode cX5_speak 100 = .ok (.getfield 25, 3) := by decide +kernel
theorem dX5_speak_103 : decode cX5_speak 103 = .ok (.iload 6, 2) := by decide +kernel
theorem dX5_speak_105 : decode cX5_speak 105 = .ok (.iastore, 1) := by decide +kernel
theorem dX5_speak_106 : decode cX5_speak 106 = .ok (.aload_n 0, 1) := by decide +kernel
theorem dX5_speak_107 : decode cX5_speak 107 = .ok (.dup, 1) := by decide +kernel
theorem dX5_speak_108 : decode cX5_speak 108 = .ok (.getfield 25, 3) := by decide +kernel
theorem dX5_speak_111 : decode cX5_speak 111 = .ok (.iconst 1, 1) := by decide +kernel
theorem dX5_speak_112 : decode cX5_speak 112 = .ok (.iadd, 1) := by decide +kernel
theorem dX5_speak_113 : decode cX5_speak 113 = .ok (.putfield 25, 3) := by decide +kernel
theorem dX5_speak_116 : decode cX5_speak 116 = .ok (.aload_n 0, 1) := by decide +kernel
theorem dX5_speak_117 : decode cX5_speak 117 = .ok (.iload 6, 2) := by decide +kernel
theorem dX5_speak_119 : decode cX5_speak 119 = .ok (.getstatic 43, 3) := by decide +kernel
theorem dX5_speak_122 : decode cX5_speak 122 = .ok (.iload 5, 2) := by decide +kernel
theorem dX5_speak_124 : decode cX5_speak 124 = .ok (.iaload, 1) := by decide +kernel
theorem dX5_speak_125 : decode cX5_speak 125 = .ok (.iload_n 3, 1) := by decide +kernel
theorem dX5_speak_126 : decode cX5_speak 126 = .ok (.iload 4, 2) := by decide +kernel
theorem dX5_speak_128 : decode cX5_speak 128 = .ok (.iconst 1, 1) := by decide +kernel
theorem dX5_speak_129 : decode cX5_speak 129 = .ok (.iadd, 1) := by decide +kernel
theorem dX5_speak_130 : decode cX5_speak 130 = .ok (.invokevirtual 46, 3) := by decide +kernel
theorem dX5_speak_133 : decode cX5_speak 133 = .ok (.ireturn, 1) := by decide +kernel
theorem dX5_workOut_0 : decode cX5_workOut 0 = .ok (.iload_n 1, 1) := by decide +kernel
theorem dX5_workOut_1 : decode cX5_workOut 1 = .ok (.lookupswitch 263 #[(10, 115), (11, 122), (12, 137), (13, 155), (20, 161), (21, 173), (30, 182), (40, 194), (50, 206), (51, 218), (60, 233), (70, 245), (71, 248)], 115) := by decide +kernel
theorem dX5_workOut_116 : decode cX5_workOut 116 = .ok (.iload_n 3, 1) := by decide +kernel
theorem dX5_workOut_117 : decode cX5_workOut 117 = .ok (.aload_n 0, 1) := by decide +kernel
theorem dX5_workOut_118 : decode cX5_workOut 118 = .ok (.getfield 15, 3) := by decide +kernel
theorem dX5_workOut_121 : decode cX5_workOut 121 = .ok (.iadd, 1) := by decide +kernel
theorem dX5_workOut_122 : decode cX5_workOut 122 = .ok (.ireturn, 1) := by decide +kernel
theorem dX5_workOut_123 : decode cX5_workOut 123 = .ok (.aload_n 0, 1) := by decide +kernel
theorem dX5_workOut_124 : decode cX5_workOut 124 = .ok (.aload_n 0, 1) := by decide +kernel
theorem dX5_workOut_125 : decode cX5_workOut 125 = .ok (.getfield 19, 3) := by decide +kernel
theorem dX5_workOut_128 : decode cX5_workOut 128 = .ok (.iconst 0, 1) := by decide +kernel
theorem dX5_workOut_129 : decode cX5_workOut 129 = .ok (.iload_n 3, 1) := by decide +kernel
theorem dX5_workOut_130 : decode cX5_workOut 130 = .ok (.iload 4, 2) := by decide +kernel
theorem dX5_workOut_132 : decode cX5_workOut 132 = .ok (.invokevirtual 32, 3) := by decide +kernel
theorem dX5_workOut_135 : decode cX5_workOut 135 = .ok (.iconst 2, 1) := by decide +kernel
theorem dX5_workOut_136 : decode cX5_workOut 136 = .ok (.imul, 1) := by decide +kernel
theorem dX5_workOut_137 : decode cX5_workOut 137 = .ok (.ireturn, 1) := by decide +kernel
theorem dX5_workOut_138 : decode cX5_workOut 138 = .ok (.aload_n 0, 1) := by decide +kernel
theorem dX5_workOut_139 : decode cX5_workOut 139 = .ok (.aload_n 0, 1) := by decide +kernel
theorem dX5_workOut_140 : decode cX5_workOut 140 = .ok (.getfield 19, 3) := by decide +kernel
theorem dX5_workOut_143 : decode cX5_workOut 143 = .ok (.iconst 1, 1) := by decide +kernel
theorem dX5_workOut_144 : decode cX5_workOut 144 = .ok (.iload_n 3, 1) := by decide +kernel
theorem dX5_workOut_145 : decode cX5_workOut 145 = .ok (.iload 4, 2) := by decide +kernel
theorem dX5_workOut_147 : decode cX5_workOut 147 = .ok (.invokevirtual 32, 3) := by decide +kernel
theorem dX5_workOut_150 : decode cX5_workOut 150 = .ok (.aload_n 0, 1) := by decide +kernel
theorem dX5_workOut_151 : decode cX5_workOut 151 = .ok (.getfield 22, 3) := by decide +kernel
theorem dX5_workOut_154 : decode cX5_workOut 154 = .ok (.isub, 1) := by decide +kernel
theorem dX5_workOut_155 : decode cX5_workOut 155 = .ok (.ireturn, 1) := by decide +kernel
theorem dX5_workOut_156 : decode cX5_workOut 156 = .ok (.aload_n 0, 1) := by decide +kernel
theorem dX5_workOut_157 : decode cX5_workOut 157 = .ok (.iload_n 3, 1) := by decide +kernel
theorem dX5_workOut_158 : decode cX5_workOut 158 = .ok (.invokevirtual 49, 3) := by decide +kernel
theorem dX5_workOut_161 : decode cX5_workOut 161 = .ok (.ireturn, 1) := by decide +kernel
theorem dX5_workOut_162 : decode cX5_workOut 162 = .ok (.aload_n 0, 1) := by decide +kernel
theorem dX5_workOut_163 : decode cX5_workOut 163 = .ok (.iload_n 2, 1) := by decide +kernel
theorem dX5_workOut_164 : decode cX5_workOut 164 = .ok (.iconst 0, 1) := by decide +kernel
theorem dX5_workOut_165 : decode cX5_workOut 165 = .ok (.iload_n 3, 1) := by decide +kernel
theorem dX5_workOut_166 : decode cX5_workOut 166 = .ok (.iload 4, 2) := by decide +kernel
theorem dX5_workOut_168 : decode cX5_workOut 168 = .ok (.invokevirtual 32, 3) := by decide +kernel
theorem dX5_workOut_171 : decode cX5_workOut 171 = .ok (.iconst 4, 1) := by decide +kernel
theorem dX5_workOut_172 : decode cX5_workOut 172 = .ok (.isub, 1) := by decide +kernel
theorem dX5_workOut_173 : decode cX5_workOut 173 = .ok (.ireturn, 1) := by decide +kernel
theorem dX5_workOut_174 : decode cX5_workOut 174 = .ok (.aload_n 0, 1) := by decide +kernel
theorem dX5_workOut_175 : decode cX5_workOut 175 = .ok (.iload_n 2, 1) := by decide +kernel
theorem dX5_workOut_176 : decode cX5_workOut 176 = .ok (.iload_n 3, 1) := by decide +kernel
theorem dX5_workOut_177 : decode cX5_workOut 177 = .ok (.iload 4, 2) := by decide +kernel
theorem dX5_workOut_179 : decode cX5_workOut 179 = .ok (.invokevirtual 53, 3) := by decide +kernel
theorem dX5_workOut_182 : decode cX5_workOut 182 = .ok (.ireturn, 1) := by decide +kernel
theorem dX5_workOut_183 : decode cX5_workOut 183 = .ok (.iconst 0, 1) := by decide +kernel
theorem dX5_workOut_184 : decode cX5_workOut 184 = .ok (.aload_n 0, 1) := by decide +kernel
theorem dX5_workOut_185 : decode cX5_workOut 185 = .ok (.iload_n 2, 1) := by decide +kernel
theorem dX5_workOut_186 : decode cX5_workOut 186 = .ok (.iconst 1, 1) := by decide +kernel
theorem dX5_workOut_187 : decode cX5_workOut 187 = .ok (.iload_n 3, 1) := by decide +kernel
theorem dX5_workOut_188 : decode cX5_workOut 188 = .ok (.iload 4, 2) := by decide +kernel
theorem dX5_workOut_190 : decode cX5_workOut 190 = .ok (.invokevirtual 32, 3) := by decide +kernel
theorem dX5_workOut_193 : decode cX5_workOut 193 = .ok (.isub, 1) := by decide +kernel
theorem dX5_workOut_194 : decode cX5_workOut 194 = .ok (.ireturn, 1) := by decide +kernel
theorem dX5_workOut_195 : decode cX5_workOut 195 = .ok (.aload_n 0, 1) := by decide +kernel
theorem dX5_workOut_196 : decode cX5_workOut 196 = .ok (.iload_n 2, 1) := by decide +kernel
theorem dX5_workOut_197 : decode cX5_workOut 197 = .ok (.iconst 2, 1) := by decide +kernel
theorem dX5_workOut_198 : decode cX5_workOut 198 = .ok (.iload_n 3, 1) := by decide +kernel
theorem dX5_workOut_199 : decode cX5_workOut 199 = .ok (.iconst 2, 1) := by decide +kernel
theorem dX5_workOut_200 : decode cX5_workOut 200 = .ok (.idiv, 1) := by decide +kernel
theorem dX5_workOut_201 : decode cX5_workOut 201 = .ok (.iload 4, 2) := by decide +kernel
theorem dX5_workOut_203 : decode cX5_workOut 203 = .ok (.invokevirtual 32, 3) := by decide +kernel
theorem dX5_workOut_206 : decode cX5_workOut 206 = .ok (.ireturn, 1) := by decide +kernel
theorem dX5_workOut_207 : decode cX5_workOut 207 = .ok (.aload_n 0, 1) := by decide +kernel
theorem dX5_workOut_208 : decode cX5_workOut 208 = .ok (.iload_n 2, 1) := by decide +kernel
theorem dX5_workOut_209 : decode cX5_workOut 209 = .ok (.iconst 0, 1) := by decide +kernel
theorem dX5_workOut_210 : decode cX5_workOut 210 = .ok (.iload_n 3, 1) := by decide +kernel
theorem dX5_workOut_211 : decode cX5_workOut 211 = .ok (.iload 4, 2) := by decide +kernel
theorem dX5_workOut_213 : decode cX5_workOut 213 = .ok (.invokevirtual 32, 3) := by decide +kernel
theorem dX5_workOut_216 : decode cX5_workOut 216 = .ok (.iconst 3, 1) := by decide +kernel
theorem dX5_workOut_217 : decode cX5_workOut 217 = .ok (.imul, 1) := by decide +kernel
theorem dX5_workOut_218 : decode cX5_workOut 218 = .ok (.ireturn, 1) := by decide +kernel
theorem dX5_workOut_219 : decode cX5_workOut 219 = .ok (.aload_n 0, 1) := by decide +kernel
theorem dX5_workOut_220 : decode cX5_workOut 220 = .ok (.iload_n 2, 1) := by decide +kernel
theorem dX5_workOut_221 : decode cX5_workOut 221 = .ok (.iconst 2, 1) := by decide +kernel
theorem dX5_workOut_222 : decode cX5_workOut 222 = .ok (.iload_n 3, 1) := by decide +kernel
theorem dX5_workOut_223 : decode cX5_workOut 223 = .ok (.iload 4, 2) := by decide +kernel
theorem dX5_workOut_225 : decode cX5_workOut 225 = .ok (.invokevirtual 32, 3) := by decide +kernel
theorem dX5_workOut_228 : decode cX5_workOut 228 = .ok (.aload_n 0, 1) := by decide +kernel
theorem dX5_workOut_229 : decode cX5_workOut 229 = .ok (.getfield 15, 3) := by decide +kernel
theorem dX5_workOut_232 : decode cX5_workOut 232 = .ok (.ixor, 1) := by decide +kernel
theorem dX5_workOut_233 : decode cX5_workOut 233 = .ok (.ireturn, 1) := by decide +kernel
theorem dX5_workOut_234 : decode cX5_workOut 234 = .ok (.aload_n 0, 1) := by decide +kernel
theorem dX5_workOut_235 : decode cX5_workOut 235 = .ok (.iload_n 2, 1) := by decide +kernel
theorem dX5_workOut_236 : decode cX5_workOut 236 = .ok (.iconst 1, 1) := by decide +kernel
theorem dX5_workOut_237 : decode cX5_workOut 237 = .ok (.iload_n 3, 1) := by decide +kernel
theorem dX5_workOut_238 : decode cX5_workOut 238 = .ok (.iconst 1, 1) := by decide +kernel
theorem dX5_workOut_239 : decode cX5_workOut 239 = .ok (.iadd, 1) := by decide +kernel
theorem dX5_workOut_240 : decode cX5_workOut 240 = .ok (.iload 4, 2) := by decide +kernel
theorem dX5_workOut_242 : decode cX5_workOut 242 = .ok (.invokevirtual 32, 3) := by decide +kernel
theorem dX5_workOut_245 : decode cX5_workOut 245 = .ok (.ireturn, 1) := by decide +kernel
theorem dX5_workOut_246 : decode cX5_workOut 246 = .ok (.bipush 9, 2) := by decide +kernel
theorem dX5_workOut_248 : decode cX5_workOut 248 = .ok (.ireturn, 1) := by decide +kernel
theorem dX5_workOut_249 : decode cX5_workOut 249 = .ok (.aload_n 0, 1) := by decide +kernel
theorem dX5_workOut_250 : decode cX5_workOut 250 = .ok (.iload_n 2, 1) := by decide +kernel
theorem dX5_workOut_251 : decode cX5_workOut 251 = .ok (.iconst 1, 1) := by decide +kernel
theorem dX5_workOut_252 : decode cX5_workOut 252 = .ok (.iload_n 3, 1) := by decide +kernel
theorem dX5_workOut_253 : decode cX5_workOut 253 = .ok (.iload 4, 2) := by decide +kernel
theorem dX5_workOut_255 : decode cX5_workOut 255 = .ok (.invokevirtual 32, 3) := by decide +kernel
theorem dX5_workOut_258 : decode cX5_workOut 258 = .ok (.aload_n 0, 1) := by decide +kernel
theorem dX5_workOut_259 : decode cX5_workOut 259 = .ok (.getfield 22, 3) := by decide +kernel
theorem dX5_workOut_262 : decode cX5_workOut 262 = .ok (.iadd, 1) := by decide +kernel
theorem dX5_workOut_263 : decode cX5_workOut 263 = .ok (.ireturn, 1) := by decide +kernel
theorem dX5_workOut_264 : decode cX5_workOut 264 = .ok (.iconst 0, 1) := by decide +kernel
theorem dX5_workOut_265 : decode cX5_workOut 265 = .ok (.ireturn, 1) := by decide +kernel
theorem dX5_part_0 : decode cX5_part 0 = .ok (.aload_n 0, 1) := by decide +kernel
theorem dX5_part_1 : decode cX5_part 1 = .ok (.getfield 22, 3) := by decide +kernel
theorem dX5_part_4 : decode cX5_part 4 = .ok (.aload_n 0, 1) := by decide +kernel
theorem dX5_part_5 : decode cX5_part 5 = .ok (.getfield 15, 3) := by decide +kernel
theorem dX5_part_8 : decode cX5_part 8 = .ok (.isub, 1) := by decide +kernel
theorem dX5_part_9 : decode cX5_part 9 = .ok (.istore_n 2, 1) := by decide +kernel
theorem dX5_part_10 : decode cX5_part 10 = .ok (.iload_n 2, 1) := by decide +kernel
theorem dX5_part_11 : decode cX5_part 11 = .ok (.ifCond .ne 10, 3) := by decide +kernel
theorem dX5_part_14 : decode cX5_part 14 = .ok (.aload_n 0, 1) := by decide +kernel
theorem dX5_part_15 : decode cX5_part 15 = .ok (.iconst 1, 1) := by decide +kernel
theorem dX5_part_16 : decode cX5_part 16 = .ok (.putfield 28, 3) := by decide +kernel
theorem dX5_part_19 : decode cX5_part 19 = .ok (.iconst 0, 1) := by decide +kernel
theorem dX5_part_20 : decode cX5_part 20 = .ok (.ireturn, 1) := by decide +kernel
theorem dX5_part_21 : decode cX5_part 21 = .ok (.iload_n 1, 1) := by decide +kernel
theorem dX5_part_22 : decode cX5_part 22 = .ok (.iload_n 2, 1) := by decide +kernel
theorem dX5_part_23 : decode cX5_part 23 = .ok (.idiv, 1) := by decide +kernel
theorem dX5_part_24 : decode cX5_part 24 = .ok (.ireturn, 1) := by decide +kernel
theorem dX5_partAndStir_0 : decode cX5_partAndStir 0 = .ok (.aload_n 0, 1) := by decide +kernel
theorem dX5_partAndStir_1 : decode cX5_partAndStir 1 = .ok (.iload_n 1, 1) := by decide +kernel
theorem dX5_partAndStir_2 : decode cX5_partAndStir 2 = .ok (.iconst 3, 1) := by decide +kernel
theorem dX5_partAndStir_3 : decode cX5_partAndStir 3 = .ok (.iload_n 2, 1) := by decide +kernel
theorem dX5_partAndStir_4 : decode cX5_partAndStir 4 = .ok (.iload_n 3, 1) := by decide +kernel
theorem dX5_partAndStir_5 : decode cX5_partAndStir 5 = .ok (.invokevirtual 32, 3) := by decide +kernel
theorem dX5_partAndStir_8 : decode cX5_partAndStir 8 = .ok (.istore 4, 2) := by decide +kernel
theorem dX5_partAndStir_10 : decode cX5_partAndStir 10 = .ok (.aload_n 0, 1) := by decide +kernel
theorem dX5_partAndStir_11 : decode cX5_partAndStir 11 = .ok (.getfield 28, 3) := by decide +kernel
theorem dX5_partAndStir_14 : decode cX5_partAndStir 14 = .ok (.ifCond .eq 7, 3) := by decide +kernel
theorem dX5_partAndStir_17 : decode cX5_partAndStir 17 = .ok (.iconst 0, 1) := by decide +kernel
theorem dX5_partAndStir_18 : decode cX5_partAndStir 18 = .ok (.goto 17, 3) := by decide +kernel
theorem dX5_partAndStir_21 : decode cX5_partAndStir 21 = .ok (.iload 4, 2) := by decide +kernel
theorem dX5_partAndStir_23 : decode cX5_partAndStir 23 = .ok (.aload_n 0, 1) := by decide +kernel
theorem dX5_partAndStir_24 : decode cX5_partAndStir 24 = .ok (.aload_n 0, 1) := by decide +kernel
theorem dX5_partAndStir_25 : decode cX5_partAndStir 25 = .ok (.getfield 19, 3) := by decide +kernel
theorem dX5_partAndStir_28 : decode cX5_partAndStir 28 = .ok (.iconst 1, 1) := by decide +kernel
theorem dX5_partAndStir_29 : decode cX5_partAndStir 29 = .ok (.iconst 1, 1) := by decide +kernel
theorem dX5_partAndStir_30 : decode cX5_partAndStir 30 = .ok (.iload_n 3, 1) := by decide +kernel
theorem dX5_partAndStir_31 : decode cX5_partAndStir 31 = .ok (.invokevirtual 32, 3) := by decide +kernel
theorem dX5_partAndStir_34 : decode cX5_partAndStir 34 = .ok (.iadd, 1) := by decide +kernel
theorem dX5_partAndStir_35 : decode cX5_partAndStir 35 = .ok (.ireturn, 1) := by decide +kernel
theorem dX6_init_0 : decode cX6_init 0 = .ok (.aload_n 0, 1) := by decide +kernel
theorem dX6_init_1 : decode cX6_init 1 = .ok (.invokespecial 1, 3) := by decide +kernel
theorem dX6_init_4 : decode cX6_init 4 = .ok (.aload_n 0, 1) := by decide +kernel
theorem dX6_init_5 : decode cX6_init 5 = .ok (.new 7, 3) := by decide +kernel
theorem dX6_init_8 : decode cX6_init 8 = .ok (.dup, 1) := by decide +kernel
theorem dX6_init_9 : decode cX6_init 9 = .ok (.invokespecial 9, 3) := by decide +kernel
theorem dX6_init_12 : decode cX6_init 12 = .ok (.putfield 10, 3) := by decide +kernel
theorem dX6_init_15 : decode cX6_init 15 = .ok (.aload_n 0, 1) := by decide +kernel
theorem dX6_init_16 : decode cX6_init 16 = .ok (.new 7, 3) := by decide +kernel
theorem dX6_init_19 : decode cX6_init 19 = .ok (.dup, 1) := by decide +kernel
theorem dX6_init_20 : decode cX6_init 20 = .ok (.invokespecial 9, 3) := by decide +kernel
theorem dX6_init_23 : decode cX6_init 23 = .ok (.putfield 16, 3) := by decide +kernel
theorem dX6_init_26 : decode cX6_init 26 = .ok (.aload_n 0, 1) := by decide +kernel
theorem dX6_init_27 : decode cX6_init 27 = .ok (.new 19, 3) := by decide +kernel
theorem dX6_init_30 : decode cX6_init 30 = .ok (.dup, 1) := by decide +kernel
theorem dX6_init_31 : decode cX6_init 31 = .ok (.invokespecial 21, 3) := by decide +kernel
theorem dX6_init_34 : decode cX6_init 34 = .ok (.putfield 22, 3) := by decide +kernel
theorem dX6_init_37 : decode cX6_init 37 = .ok (.aload_n 0, 1) := by decide +kernel
theorem dX6_init_38 : decode cX6_init 38 = .ok (.new 19, 3) := by decide +kernel
theorem dX6_init_41 : decode cX6_init 41 = .ok (.dup, 1) := by decide +kernel
theorem dX6_init_42 : decode cX6_init 42 = .ok (.invokespecial 21, 3) := by decide +kernel
theorem dX6_init_45 : decode cX6_init 45 = .ok (.putfield 26, 3) := by decide +kernel
theorem dX6_init_48 : decode cX6_init 48 = .ok (.aload_n 0, 1) := by decide +kernel
theorem dX6_init_49 : decode cX6_init 49 = .ok (.new 29, 3) := by decide +kernel
theorem dX6_init_52 : decode cX6_init 52 = .ok (.dup, 1) := by decide +kernel
theorem dX6_init_53 : decode cX6_init 53 = .ok (.invokespecial 31, 3) := by decide +kernel
theorem dX6_init_56 : decode cX6_init 56 = .ok (.putfield 32, 3) := by decide +kernel
theorem dX6_init_59 : decode cX6_init 59 = .ok (.aload_n 0, 1) := by decide +kernel
theorem dX6_init_60 : decode cX6_init 60 = .ok (.new 36, 3) := by decide +kernel
theorem dX6_init_63 : decode cX6_init 63 = .ok (.dup, 1) := by decide +kernel
theorem dX6_init_64 : decode cX6_init 64 = .ok (.invokespecial 38, 3) := by decide +kernel
theorem dX6_init_67 : decode cX6_init 67 = .ok (.putfield 39, 3) := by decide +kernel
theorem dX6_init_70 : decode cX6_init 70 = .ok (.aload_n 0, 1) := by decide +kernel
theorem dX6_init_71 : decode cX6_init 71 = .ok (.iconst 4, 1) := by decide +kernel
theorem dX6_init_72 : decode cX6_init 72 = .ok (.anewarray 43, 3) := by decide +kernel
theorem dX6_init_75 : decode cX6_init 75 = .ok (.dup, 1) := by decide +kernel
theorem dX6_init_76 : decode cX6_init 76 = .ok (.iconst 0, 1) := by decide +kernel
theorem dX6_init_77 : decode cX6_init 77 = .ok (.new 43, 3) := by decide +kernel
theorem dX6_init_80 : decode cX6_init 80 = .ok (.dup, 1) := by decide +kernel
theorem dX6_init_81 : decode cX6_init 81 = .ok (.invokespecial 45, 3) := by decide +kernel
theorem dX6_init_84 : decode cX6_init 84 = .ok (.aastore, 1) := by decide +kernel
theorem dX6_init_85 : decode cX6_init 85 = .ok (.dup, 1) := by decide +kernel
theorem dX6_init_86 : decode cX6_init 86 = .ok (.iconst 1, 1) := by decide +kernel
theorem dX6_init_87 : decode cX6_init 87 = .ok (.new 43, 3) := by decide +kernel
theorem dX6_init_90 : decode cX6_init 90 = .ok (.dup, 1) := by decide +kernel
theorem dX6_init_91 : decode cX6_init 91 = .ok (.invokespecial 45, 3) := by decide +kernel
theorem dX6_init_94 : decode cX6_init 94 = .ok (.aastore, 1) := by decide +kernel
theorem dX6_init_95 : decode cX6_init 95 = .ok (.dup, 1) := by decide +kernel
theorem dX6_init_96 : decode cX6_init 96 = .ok (.iconst 2, 1) := by decide +kernel
theorem dX6_init_97 : decode cX6_init 97 = .ok (.new 43, 3) := by decide +kernel
theorem dX6_init_100 : decode cX6_init 100 = .ok (.dup, 1) := by decide +kernel
theorem dX6_init_101 : decode cX6_init 101 = .ok (.invokespecial 45, 3) := by decide +kernel
theorem dX6_init_104 : decode cX6_init 104 = .ok (.aastore, 1) := by decide +kernel
theorem dX6_init_105 : decode cX6_init 105 = .ok (.dup, 1) := by decide +kernel
theorem dX6_init_106 : decode cX6_init 106 = .ok (.iconst 3, 1) := by decide +kernel
theorem dX6_init_107 : decode cX6_init 107 = .ok (.new 43, 3) := by decide +kernel
theorem dX6_init_110 : decode cX6_init 110 = .ok (.dup, 1) := by decide +kernel
theorem dX6_init_111 : decode cX6_init 111 = .ok (.invokespecial 45, 3) := by decide +kernel
theorem dX6_init_114 : decode cX6_init 114 = .ok (.aastore, 1) := by decide +kernel
theorem dX6_init_115 : decode cX6_init 115 = .ok (.putfield 46, 3) := by decide +kernel
theorem dX6_init_118 : decode cX6_init 118 = .ok (.aload_n 0, 1) := by decide +kernel
theorem dX6_init_119 : decode cX6_init 119 = .ok (.bipush 7, 2) := by decide +kernel
theorem dX6_init_121 : decode cX6_init 121 = .ok (.newarray .int, 2) := by decide +kernel
theorem dX6_init_123 : decode cX6_init 123 = .ok (.putfield 50, 3) := by decide +kernel
theorem dX6_init_126 : decode cX6_init 126 = .ok (.return_, 1) := by decide +kernel
theorem dX6_person_0 : decode cX6_person 0 = .ok (.iload_n 1, 1) := by decide +kernel
theorem dX6_person_1 : decode cX6_person 1 = .ok (.invokestatic 54, 3) := by decide +kernel
theorem dX6_person_4 : decode cX6_person 4 = .ok (.ifCond .eq 17, 3) := by decide +kernel
theorem dX6_person_7 : decode cX6_person 7 = .ok (.iload_n 2, 1) := by decide +kernel
theorem dX6_person_8 : decode cX6_person 8 = .ok (.invokestatic 58, 3) := by decide +kernel
theorem dX6_person_11 : decode cX6_person 11 = .ok (.ifCond .eq 10, 3) := by decide +kernel
theorem dX6_person_14 : decode cX6_person 14 = .ok (.iload_n 3, 1) := by decide +kernel
theorem dX6_person_15 : decode cX6_person 15 = .ok (.invokestatic 61, 3) := by decide +kernel
theorem dX6_person_18 : decode cX6_person 18 = .ok (.ifCond .ne 9, 3) := by decide +kernel
theorem dX6_person_21 : decode cX6_person 21 = .ok (.aload_n 0, 1) := by decide +kernel
theorem dX6_person_22 : decode cX6_person 22 = .ok (.iconst 1, 1) := by decide +kernel
theorem dX6_person_23 : decode cX6_person 23 = .ok (.invokevirtual 64, 3) := by decide +kernel
theorem dX6_person_26 : decode cX6_person 26 = .ok (.ireturn, 1) := by decide +kernel
theorem dX6_person_27 : decode cX6_person 27 = .ok (.aload_n 0, 1) := by decide +kernel
theorem dX6_person_28 : decode cX6_person 28 = .ok (.getfield 10, 3) := by decide +kernel
theorem dX6_person_31 : decode cX6_person 31 = .ok (.getfield 68, 3) := by decide +kernel
theorem dX6_person_34 : decode cX6_person 34 = .ok (.bipush 8, 2) := by decide +kernel
theorem dX6_person_36 : decode cX6_person 36 = .ok (.if_icmp .lt 9, 3) := by decide +kernel
theorem dX6_person_39 : decode cX6_person 39 = .ok (.aload_n 0, 1) := by decide +kernel
theorem dX6_person_40 : decode cX6_person 40 = .ok (.iconst 4, 1) := by decide +kernel
theorem dX6_person_41 : decode cX6_person 41 = .ok (.invokevirtual 64, 3) := by decide +kernel
theorem dX6_person_44 : decode cX6_person 44 = .ok (.ireturn, 1) := by decide +kernel
theorem dX6_person_45 : decode cX6_person 45 = .ok (.aload_n 0, 1) := by decide +kernel
theorem dX6_person_46 : decode cX6_person 46 = .ok (.getfield 10, 3) := by decide +kernel
theorem dX6_person_49 : decode cX6_person 49 = .ok (.iload_n 1, 1) := by decide +kernel
theorem dX6_person_50 : decode cX6_person 50 = .ok (.iload_n 2, 1) := by decide +kernel
theorem dX6_person_51 : decode cX6_person 51 = .ok (.iload_n 3, 1) := by decide +kernel
theorem dX6_person_52 : decode cX6_person 52 = .ok (.invokevirtual 72, 3) := by decide +kernel
theorem dX6_person_55 : decode cX6_person 55 = .ok (.ireturn, 1) := by decide +kernel
theorem dX6_personIs_0 : decode cX6_personIs 0 = .ok (.aload_n 0, 1) := by decide +kernel
theorem dX6_personIs_1 : decode cX6_personIs 1 = .ok (.getfield 10, 3) := by decide +kernel
theorem dX6_personIs_4 : decode cX6_personIs 4 = .ok (.iload_n 1, 1) := by decide +kernel
theorem dX6_personIs_5 : decode cX6_personIs 5 = .ok (.invokevirtual 76, 3) := by decide +kernel
theorem dX6_personIs_8 : decode cX6_personIs 8 = .ok (.ifCond .ne 9, 3) := by decide +kernel
theorem dX6_personIs_11 : decode cX6_personIs 11 = .ok (.aload_n 0, 1) := by decide +kernel
theorem dX6_personIs_12 : decode cX6_personIs 12 = .ok (.iconst 1, 1) := by decide +kernel
theorem dX6_personIs_13 : decode cX6_personIs 13 = .ok (.invokevirtual 64, 3) := by decide +kernel
theorem dX6_personIs_16 : decode cX6_personIs 16 = .ok (.ireturn, 1) := by decide +kernel
theorem dX6_personIs_17 : decode cX6_personIs 17 = .ok (.iload_n 2, 1) := by decide +kernel
theorem dX6_personIs_18 : decode cX6_personIs 18 = .ok (.tableswitch 90 0 4 #[34, 44, 54, 67, 80], 34) := by decide +kernel
theorem dX6_personIs_52 : decode cX6_personIs 52 = .ok (.aload_n 0, 1) := by decide +kernel
theorem dX6_personIs_53 : decode cX6_personIs 53 = .ok (.getfield 10, 3) := by decide +kernel
theorem dX6_personIs_56 : decode cX6_personIs 56 = .ok (.getfield 79, 3) := by decide +kernel
theorem dX6_personIs_59 : decode cX6_personIs 59 = .ok (.iload_n 1, 1) := by decide +kernel
theorem dX6_personIs_60 : decode cX6_personIs 60 = .ok (.iaload, 1) := by decide +kernel
theorem dX6_personIs_61 : decode cX6_personIs 61 = .ok (.ireturn, 1) := by decide +kernel
theorem dX6_personIs_62 : decode cX6_personIs 62 = .ok (.aload_n 0, 1) := by decide +kernel
theorem dX6_personIs_63 : decode cX6_personIs 63 = .ok (.getfield 10, 3) := by decide +kernel
theorem dX6_personIs_66 : decode cX6_personIs 66 = .ok (.getfield 82, 3) := by decide +kernel
theorem dX6_personIs_69 : decode cX6_personIs 69 = .ok (.iload_n 1, 1) := by decide +kernel
theorem dX6_personIs_70 : decode cX6_personIs 70 = .ok (.iaload, 1) := by decide +kernel
theorem dX6_personIs_71 : decode cX6_personIs 71 = .ok (.ireturn, 1) := by decide +kernel
theorem dX6_personIs_72 : decode cX6_personIs 72 = .ok (.aload_n 0, 1) := by decide +kernel
theorem dX6_personIs_73 : decode cX6_personIs 73 = .ok (.getfield 10, 3) := by decide +kernel
theorem dX6_personIs_76 : decode cX6_personIs 76 = .ok (.getfield 85, 3) := by decide +kernel
theorem dX6_personIs_79 : decode cX6_personIs 79 = .ok (.getfield 88, 3) := by decide +kernel
theorem dX6_personIs_82 : decode cX6_personIs 82 = .ok (.iload_n 1, 1) := by decide +kernel
theorem dX6_personIs_83 : decode cX6_personIs 83 = .ok (.iaload, 1) := by decide +kernel
theorem dX6_personIs_84 : decode cX6_personIs 84 = .ok (.ireturn, 1) := by decide +kernel
theorem dX6_personIs_85 : decode cX6_personIs 85 = .ok (.aload_n 0, 1) := by decide +kernel
theorem dX6_personIs_86 : decode cX6_personIs 86 = .ok (.getfield 10, 3) := by decide +kernel
theorem dX6_personIs_89 : decode cX6_personIs 89 = .ok (.getfield 85, 3) := by decide +kernel
theorem dX6_personIs_92 : decode cX6_personIs 92 = .ok (.getfield 91, 3) := by decide +kernel
theorem dX6_personIs_95 : decode cX6_personIs 95 = .ok (.iload_n 1, 1) := by decide +kernel
theorem dX6_personIs_96 : decode cX6_personIs 96 = .ok (.iaload, 1) := by decide +kernel
theorem dX6_personIs_97 : decode cX6_personIs 97 = .ok (.ireturn, 1) := by decide +kernel
theorem dX6_personIs_98 : decode cX6_personIs 98 = .ok (.aload_n 0, 1) := by decide +kernel
theorem dX6_personIs_99 : decode cX6_personIs 99 = .ok (.getfield 10, 3) := by decide +kernel
theorem dX6_personIs_102 : decode cX6_personIs 102 = .ok (.getfield 94, 3) := by decide +kernel
theorem dX6_personIs_105 : decode cX6_personIs 105 = .ok (.iload_n 1, 1) := by decide +kernel
theorem dX6_personIs_106 : decode cX6_personIs 106 = .ok (.iaload, 1) := by decide +kernel
theorem dX6_personIs_107 : decode cX6_personIs 107 = .ok (.ireturn, 1) := by decide +kernel
theorem dX6_personIs_108 : decode cX6_personIs 108 = .ok (.aload_n 0, 1) := by decide +kernel
theorem dX6_personIs_109 : decode cX6_personIs 109 = .ok (.iconst 1, 1) := by decide +kernel
theorem dX6_personIs_110 : decode cX6_personIs 110 = .ok (.invokevirtual 64, 3) := by decide +kernel
theorem dX6_personIs_113 : decode cX6_personIs 113 = .ok (.ireturn, 1) := by decide +kernel
theorem dX6_become_0 : decode cX6_become 0 = .ok (.aload_n 0, 1) := by decide +kernel
theorem dX6_become_1 : decode cX6_become 1 = .ok (.getfield 10, 3) := by decide +kernel
theorem dX6_become_4 : decode cX6_become 4 = .ok (.iload_n 1, 1) := by decide +kernel
theorem dX6_become_5 : decode cX6_become 5 = .ok (.invokevirtual 76, 3) := by decide +kernel
theorem dX6_become_8 : decode cX6_become 8 = .ok (.ifCond .eq 10, 3) := by decide +kernel
theorem dX6_become_11 : decode cX6_become 11 = .ok (.iload_n 2, 1) := by decide +kernel
theorem dX6_become_12 : decode cX6_become 12 = .ok (.invokestatic 54, 3) := by decide +kernel
theorem dX6_become_15 : decode cX6_become 15 = .ok (.ifCond .ne 9, 3) := by decide +kernel
theorem dX6_become_18 : decode cX6_become 18 = .ok (.aload_n 0, 1) := by decide +kernel
theorem dX6_become_19 : decode cX6_become 19 = .ok (.iconst 1, 1) := by decide +kernel
theorem dX6_become_20 : decode cX6_become 20 = .ok (.invokevirtual 64, 3) := by decide +kernel
theorem dX6_become_23 : decode cX6_become 23 = .ok (.ireturn, 1) := by decide +kernel
theorem dX6_become_24 : decode cX6_become 24 = .ok (.aload_n 0, 1) := by decide +kernel
theorem dX6_become_25 : decode cX6_become 25 = .ok (.getfield 10, 3) := by decide +kernel
theorem dX6_become_28 : decode cX6_become 28 = .ok (.getfield 79, 3) := by decide +kernel
theorem dX6_become_31 : decode cX6_become 31 = .ok (.iload_n 1, 1) := by decide +kernel
theorem dX6_become_32 : decode cX6_become 32 = .ok (.iaload, 1) := by decide +kernel
theorem dX6_become_33 : decode cX6_become 33 = .ok (.istore_n 3, 1) := by decide +kernel
theorem dX6_become_34 : decode cX6_become 34 = .ok (.aload_n 0, 1) := by decide +kernel
theorem dX6_become_35 : decode cX6_become 35 = .ok (.getfield 10, 3) := by decide +kernel
theorem dX6_become_38 : decode cX6_become 38 = .ok (.getfield 79, 3) := by decide +kernel
theorem dX6_become_41 : decode cX6_become 41 = .ok (.iload_n 1, 1) := by decide +kernel
theorem dX6_become_42 : decode cX6_become 42 = .ok (.iload_n 2, 1) := by decide +kernel
theorem dX6_become_43 : decode cX6_become 43 = .ok (.bipush 10, 2) := by decide +kernel
theorem dX6_become_45 : decode cX6_become 45 = .ok (.idiv, 1) := by decide +kernel
theorem dX6_become_46 : decode cX6_become 46 = .ok (.iastore, 1) := by decide +kernel
theorem dX6_become_47 : decode cX6_become 47 = .ok (.aload_n 0, 1) := by decide +kernel
theorem dX6_become_48 : decode cX6_become 48 = .ok (.getfield 10, 3) := by decide +kernel
theorem dX6_become_51 : decode cX6_become 51 = .ok (.getfield 82, 3) := by decide +kernel
theorem dX6_become_54 : decode cX6_become 54 = .ok (.iload_n 1, 1) := by decide +kernel
theorem dX6_become_55 : decode cX6_become 55 = .ok (.iload_n 2, 1) := by decide +kernel
theorem dX6_become_56 : decode cX6_become 56 = .ok (.bipush 10, 2) := by decide +kernel
theorem dX6_become_58 : decode cX6_become 58 = .ok (.irem, 1) := by decide +kernel
theorem dX6_become_59 : decode cX6_become 59 = .ok (.iastore, 1) := by decide +kernel
theorem dX6_become_60 : decode cX6_become 60 = .ok (.iload_n 3, 1) := by decide +kernel
theorem dX6_become_61 : decode cX6_become 61 = .ok (.ireturn, 1) := by decide +kernel
theorem dX6_as_0 : decode cX6_as 0 = .ok (.aload_n 0, 1) := by decide +kernel
theorem dX6_as_1 : decode cX6_as 1 = .ok (.getfield 10, 3) := by decide +kernel
theorem dX6_as_4 : decode cX6_as 4 = .ok (.iload_n 1, 1) := by decide +kernel
theorem dX6_as_5 : decode cX6_as 5 = .ok (.invokevirtual 76, 3) := by decide +kernel
theorem dX6_as_8 : decode cX6_as 8 = .ok (.ifCond .eq 12, 3) := by decide +kernel
theorem dX6_as_11 : decode cX6_as 11 = .ok (.iload_n 2, 1) := by decide +kernel
theorem dX6_as_12 : decode cX6_as 12 = .ok (.bipush 6, 2) := by decide +kernel
theorem dX6_as_14 : decode cX6_as 14 = .ok (.invokestatic 97, 3) := by decide +kernel
theorem dX6_as_17 : decode cX6_as 17 = .ok (.ifCond .ne 9, 3) := by decide +kernel
theorem dX6_as_20 : decode cX6_as 20 = .ok (.aload_n 0, 1) := by decide +kernel
theorem dX6_as_21 : decode cX6_as 21 = .ok (.iconst 1, 1) := by decide +kernel
theorem dX6_as_22 : decode cX6_as 22 = .ok (.invokevirtual 64, 3) := by decide +kernel
theorem dX6_as_25 : decode cX6_as 25 = .ok (.ireturn, 1) := by decide +kernel
theorem dX6_as_26 : decode cX6_as 26 = .ok (.aload_n 0, 1) := by decide +kernel
theorem dX6_as_27 : decode cX6_as 27 = .ok (.getfield 10, 3) := by decide +kernel
theorem dX6_as_30 : decode cX6_as 30 = .ok (.getfield 79, 3) := by decide +kernel
theorem dX6_as_33 : decode cX6_as 33 = .ok (.iload_n 1, 1) := by decide +kernel
theorem dX6_as_34 : decode cX6_as 34 = .ok (.iaload, 1) := by decide +kernel
theorem dX6_as_35 : decode cX6_as 35 = .ok (.iload_n 2, 1) := by decide +kernel
theorem dX6_as_36 : decode cX6_as 36 = .ok (.invokestatic 101, 3) := by decide +kernel
theorem dX6_as_39 : decode cX6_as 39 = .ok (.ifCond .eq 15, 3) := by decide +kernel
theorem dX6_as_42 : decode cX6_as 42 = .ok (.aload_n 0, 1) := by decide +kernel
theorem dX6_as_43 : decode cX6_as 43 = .ok (.getfield 10, 3) := by decide +kernel
theorem dX6_as_46 : decode cX6_as 46 = .ok (.getfield 82, 3) := by decide +kernel
theorem dX6_as_49 : decode cX6_as 49 = .ok (.iload_n 1, 1) := by decide +kernel
theorem dX6_as_50 : decode cX6_as 50 = .ok (.iaload, 1) := by decide +kernel
theorem dX6_as_51 : decode cX6_as 51 = .ok (.goto 8, 3) := by decide +kernel
theorem dX6_as_54 : decode cX6_as 54 = .ok (.aload_n 0, 1) := by decide +kernel
theorem dX6_as_55 : decode cX6_as 55 = .ok (.iconst 5, 1) := by decide +kernel
theorem dX6_as_56 : decode cX6_as 56 = .ok (.invokevirtual 64, 3) := by decide +kernel
theorem dX6_as_59 : decode cX6_as 59 = .ok (.ireturn, 1) := by decide +kernel
theorem dX6_shows_0 : decode cX6_shows 0 = .ok (.aload_n 0, 1) := by decide +kernel
theorem dX6_shows_1 : decode cX6_shows 1 = .ok (.getfield 10, 3) := by decide +kernel
theorem dX6_shows_4 : decode cX6_shows 4 = .ok (.iload_n 1, 1) := by decide +kernel
theorem dX6_shows_5 : decode cX6_shows 5 = .ok (.invokevirtual 76, 3) := by decide +kernel
theorem dX6_shows_8 : decode cX6_shows 8 = .ok (.ifCond .eq 10, 3) := by decide +kernel
theorem dX6_shows_11 : decode cX6_shows 11 = .ok (.iload_n 2, 1) := by decide +kernel
theorem dX6_shows_12 : decode cX6_shows 12 = .ok (.invokestatic 61, 3) := by decide +kernel
theorem dX6_shows_15 : decode cX6_shows 15 = .ok (.ifCond .ne 9, 3) := by decide +kernel
theorem dX6_shows_18 : decode cX6_shows 18 = .ok (.aload_n 0, 1) := by decide +kernel
theorem dX6_shows_19 : decode cX6_shows 19 = .ok (.iconst 1, 1) := by decide +kernel
theorem dX6_shows_20 : decode cX6_shows 20 = .ok (.invokevirtual 64, 3) := by decide +kernel
theorem dX6_shows_23 : decode cX6_shows 23 = .ok (.ireturn, 1) := by decide +kernel
theorem dX6_shows_24 : decode cX6_shows 24 = .ok (.aload_n 0, 1) := by decide +kernel
theorem dX6_shows_25 : decode cX6_shows 25 = .ok (.getfield 10, 3) := by decide +kernel
theorem dX6_shows_28 : decode cX6_shows 28 = .ok (.getfield 85, 3) := by decide +kernel
theorem dX6_shows_31 : decode cX6_shows 31 = .ok (.getfield 91, 3) := by decide +kernel
theorem dX6_shows_34 : decode cX6_shows 34 = .ok (.iload_n 1, 1) := by decide +kernel
theorem dX6_shows_35 : decode cX6_shows 35 = .ok (.iaload, 1) := by decide +kernel
theorem dX6_shows_36 : decode cX6_shows 36 = .ok (.istore_n 3, 1) := by decide +kernel
theorem dX6_shows_37 : decode cX6_shows 37 = .ok (.aload_n 0, 1) := by decide +kernel
theorem dX6_shows_38 : decode cX6_shows 38 = .ok (.getfield 10, 3) := by decide +kernel
theorem dX6_shows_41 : decode cX6_shows 41 = .ok (.getfield 85, 3) := by decide +kernel
theorem dX6_shows_44 : decode cX6_shows 44 = .ok (.getfield 91, 3) := by decide +kernel
theorem dX6_shows_47 : decode cX6_shows 47 = .ok (.iload_n 1, 1) := by decide +kernel
theorem dX6_shows_48 : decode cX6_shows 48 = .ok (.iload_n 2, 1) := by decide +kernel
theorem dX6_shows_49 : decode cX6_shows 49 = .ok (.iastore, 1) := by decide +kernel
theorem dX6_shows_50 : decode cX6_shows 50 = .ok (.iload_n 3, 1) := by decide +kernel
theorem dX6_shows_51 : decode cX6_shows 51 = .ok (.ireturn, 1) := by decide +kernel
theorem dX6_seems_0 : decode cX6_seems 0 = .ok (.aload_n 0, 1) := by decide +kernel
theorem dX6_seems_1 : decode cX6_seems 1 = .ok (.getfield 10, 3) := by decide +kernel
theorem dX6_seems_4 : decode cX6_seems 4 = .ok (.iload_n 1, 1) := by decide +kernel
theorem dX6_seems_5 : decode cX6_seems 5 = .ok (.invokevirtual 76, 3) := by decide +kernel
theorem dX6_seems_8 : decode cX6_seems 8 = .ok (.ifCond .eq 10, 3) := by decide +kernel
theorem dX6_seems_11 : decode cX6_seems 11 = .ok (.iload_n 2, 1) := by decide +kernel
theorem dX6_seems_12 : decode cX6_seems 12 = .ok (.invokestatic 58, 3) := by decide +kernel
theorem dX6_seems_15 : decode cX6_seems 15 = .ok (.ifCond .ne 9, 3) := by decide +kernel
theorem dX6_seems_18 : decode cX6_seems 18 = .ok (.aload_n 0, 1) := by decide +kernel
theorem dX6_seems_19 : decode cX6_seems 19 = .ok (.iconst 1, 1) := by decide +kernel
theorem dX6_seems_20 : decode cX6_seems 20 = .ok (.invokevirtual 64, 3) := by decide +kernel
theorem dX6_seems_23 : decode cX6_seems 23 = .ok (.ireturn, 1) := by decide +kernel
theorem dX6_seems_24 : decode cX6_seems 24 = .ok (.aload_n 0, 1) := by decide +kernel
theorem dX6_seems_25 : decode cX6_seems 25 = .ok (.getfield 10, 3) := by decide +kernel
theorem dX6_seems_28 : decode cX6_seems 28 = .ok (.getfield 85, 3) := by decide +kernel
theorem dX6_seems_31 : decode cX6_seems 31 = .ok (.getfield 88, 3) := by decide +kernel
theorem dX6_seems_34 : decode cX6_seems 34 = .ok (.iload_n 1, 1) := by decide +kernel
theorem dX6_seems_35 : decode cX6_seems 35 = .ok (.iaload, 1) := by decide +kernel
theorem dX6_seems_36 : decode cX6_seems 36 = .ok (.istore_n 3, 1) := by decide +kernel
theorem dX6_seems_37 : decode cX6_seems 37 = .ok (.aload_n 0, 1) := by decide +kernel
theorem dX6_seems_38 : decode cX6_seems 38 = .ok (.getfield 10, 3) := by decide +kernel
theorem dX6_seems_41 : decode cX6_seems 41 = .ok (.getfield 85, 3) := by decide +kernel
theorem dX6_seems_44 : decode cX6_seems 44 = .ok (.getfield 88, 3) := by decide +kernel
theorem dX6_seems_47 : decode cX6_seems 47 = .ok (.iload_n 1, 1) := by decide +kernel
theorem dX6_seems_48 : decode cX6_seems 48 = .ok (.iload_n 2, 1) := by decide +kernel
theorem dX6_seems_49 : decode cX6_seems 49 = .ok (.iastore, 1) := by decide +kernel
theorem dX6_seems_50 : decode cX6_seems 50 = .ok (.iload_n 3, 1) := by decide +kernel
theorem dX6_seems_51 : decode cX6_seems 51 = .ok (.ireturn, 1) := by decide +kernel
theorem dX6_taken_0 : decode cX6_taken 0 = .ok (.aload_n 0, 1) := by decide +kernel
theorem dX6_taken_1 : decode cX6_taken 1 = .ok (.getfield 10, 3) := by decide +kernel
theorem dX6_taken_4 : decode cX6_taken 4 = .ok (.iload_n 1, 1) := by decide +kernel
theorem dX6_taken_5 : decode cX6_taken 5 = .ok (.invokevirtual 76, 3) := by decide +kernel
theorem dX6_taken_8 : decode cX6_taken 8 = .ok (.ifCond .eq 19, 3) := by decide +kernel
theorem dX6_taken_11 : decode cX6_taken 11 = .ok (.aload_n 0, 1) := by decide +kernel
theorem dX6_taken_12 : decode cX6_taken 12 = .ok (.getfield 10, 3) := by decide +kernel
theorem dX6_taken_15 : decode cX6_taken 15 = .ok (.iload_n 2, 1) := by decide +kernel
theorem dX6_taken_16 : decode cX6_taken 16 = .ok (.invokevirtual 76, 3) := by decide +kernel
theorem dX6_taken_19 : decode cX6_taken 19 = .ok (.ifCond .eq 8, 3) := by decide +kernel
theorem dX6_taken_22 : decode cX6_taken 22 = .ok (.iload_n 1, 1) := by decide +kernel
theorem dX6_taken_23 : decode cX6_taken 23 = .ok (.iload_n 2, 1) := by decide +kernel
theorem dX6_taken_24 : decode cX6_taken 24 = .ok (.if_icmp .ne 9, 3) := by decide +kernel
theorem dX6_taken_27 : decode cX6_taken 27 = .ok (.aload_n 0, 1) := by decide +kernel
theorem dX6_taken_28 : decode cX6_taken 28 = .ok (.iconst 1, 1) := by decide +kernel
theorem dX6_taken_29 : decode cX6_taken 29 = .ok (.invokevirtual 64, 3) := by decide +kernel
theorem dX6_taken_32 : decode cX6_taken 32 = .ok (.ireturn, 1) := by decide +kernel
theorem dX6_taken_33 : decode cX6_taken 33 = .ok (.aload_n 0, 1) := by decide +kernel
theorem dX6_taken_34 : decode cX6_taken 34 = .ok (.getfield 10, 3) := by decide +kernel
theorem dX6_taken_37 : decode cX6_taken 37 = .ok (.getfield 85, 3) := by decide +kernel
theorem dX6_taken_40 : decode cX6_taken 40 = .ok (.astore_n 3, 1) := by decide +kernel
theorem dX6_taken_41 : decode cX6_taken 41 = .ok (.aload_n 0, 1) := by decide +kernel
theorem dX6_taken_42 : decode cX6_taken 42 = .ok (.getfield 10, 3) := by decide +kernel
theorem dX6_taken_45 : decode cX6_taken 45 = .ok (.iload_n 1, 1) := by decide +kernel
theorem dX6_taken_46 : decode cX6_taken 46 = .ok (.aload_n 3, 1) := by decide +kernel
theorem dX6_taken_47 : decode cX6_taken 47 = .ok (.getfield 88, 3) := by decide +kernel
theorem dX6_taken_50 : decode cX6_taken 50 = .ok (.iload_n 2, 1) := by decide +kernel
theorem dX6_taken_51 : decode cX6_taken 51 = .ok (.iaload, 1) := by decide +kernel
theorem dX6_taken_52 : decode cX6_taken 52 = .ok (.aload_n 3, 1) := by decide +kernel
theorem dX6_taken_53 : decode cX6_taken 53 = .ok (.getfield 91, 3) := by decide +kernel
theorem dX6_taken_56 : decode cX6_taken 56 = .ok (.iload_n 2, 1) := by decide +kernel
theorem dX6_taken_57 : decode cX6_taken 57 = .ok (.iaload, 1) := by decide +kernel
theorem dX6_taken_58 : decode cX6_taken 58 = .ok (.aload_n 3, 1) := by decide +kernel
theorem dX6_taken_59 : decode cX6_taken 59 = .ok (.getfield 104, 3) := by decide +kernel
theorem dX6_taken_62 : decode cX6_taken 62 = .ok (.invokevirtual 107, 3) := by decide +kernel
theorem dX6_taken_65 : decode cX6_taken 65 = .ok (.ireturn, 1) := by decide +kernel
theorem dX6_call_0 : decode cX6_call 0 = .ok (.aload_n 0, 1) := by decide +kernel
theorem dX6_call_1 : decode cX6_call 1 = .ok (.getfield 10, 3) := by decide +kernel
theorem dX6_call_4 : decode cX6_call 4 = .ok (.iload_n 1, 1) := by decide +kernel
theorem dX6_call_5 : decode cX6_call 5 = .ok (.invokevirtual 76, 3) := by decide +kernel
theorem dX6_call_8 : decode cX6_call 8 = .ok (.ifCond .eq 19, 3) := by decide +kernel
theorem dX6_call_11 : decode cX6_call 11 = .ok (.aload_n 0, 1) := by decide +kernel
theorem dX6_call_12 : decode cX6_call 12 = .ok (.getfield 10, 3) := by decide +kernel
theorem dX6_call_15 : decode cX6_call 15 = .ok (.iload_n 2, 1) := by decide +kernel
theorem dX6_call_16 : decode cX6_call 16 = .ok (.invokevirtual 76, 3) := by decide +kernel
theorem dX6_call_19 : decode cX6_call 19 = .ok (.ifCond .eq 8, 3) := by decide +kernel
theorem dX6_call_22 : decode cX6_call 22 = .ok (.iload_n 1, 1) := by decide +kernel
theorem dX6_call_23 : decode cX6_call 23 = .ok (.iload_n 2, 1) := by decide +kernel
theorem dX6_call_24 : decode cX6_call 24 = .ok (.if_icmp .ne 9, 3) := by decide +kernel
theorem dX6_call_27 : decode cX6_call 27 = .ok (.aload_n 0, 1) := by decide +kernel
theorem dX6_call_28 : decode cX6_call 28 = .ok (.iconst 1, 1) := by decide +kernel
theorem dX6_call_29 : decode cX6_call 29 = .ok (.invokevirtual 64, 3) := by decide +kernel
theorem dX6_call_32 : decode cX6_call 32 = .ok (.ireturn, 1) := by decide +kernel
theorem dX6_call_33 : decode cX6_call 33 = .ok (.aload_n 0, 1) := by decide +kernel
theorem dX6_call_34 : decode cX6_call 34 = .ok (.getfield 10, 3) := by decide +kernel
theorem dX6_call_37 : decode cX6_call 37 = .ok (.iload_n 1, 1) := by decide +kernel
theorem dX6_call_38 : decode cX6_call 38 = .ok (.iload_n 2, 1) := by decide +kernel
theorem dX6_call_39 : decode cX6_call 39 = .ok (.invokevirtual 111, 3) := by decide +kernel
theorem dX6_call_42 : decode cX6_call 42 = .ok (.ireturn, 1) := by decide +kernel
theorem dX6_feed_0 : decode cX6_feed 0 = .ok (.iload_n 3, 1) := by decide +kernel
theorem dX6_feed_1 : decode cX6_feed 1 = .ok (.iconst 1, 1) := by decide +kernel
theorem dX6_feed_2 : decode cX6_feed 2 = .ok (.if_icmp .lt 9, 3) := by decide +kernel
theorem dX6_feed_5 : decode cX6_feed 5 = .ok (.iload_n 3, 1) := by decide +kernel
theorem dX6_feed_6 : decode cX6_feed 6 = .ok (.bipush 8, 2) := by decide +kernel
theorem dX6_feed_8 : decode cX6_feed 8 = .ok (.if_icmp .le 9, 3) := by decide +kernel
theorem dX6_feed_11 : decode cX6_feed 11 = .ok (.aload_n 0, 1) := by decide +kernel
theorem dX6_feed_12 : decode cX6_feed 12 = .ok (.iconst 1, 1) := by decide +kernel
theorem dX6_feed_13 : decode cX6_feed 13 = .ok (.invokevirtual 64, 3) := by decide +kernel
theorem dX6_feed_16 : decode cX6_feed 16 = .ok (.ireturn, 1) := by decide +kernel
theorem dX6_feed_17 : decode cX6_feed 17 = .ok (.iload_n 3, 1) := by decide +kernel
theorem dX6_feed_18 : decode cX6_feed 18 = .ok (.bipush 60, 2) := by decide +kernel
theorem dX6_feed_20 : decode cX6_feed 20 = .ok (.aload_n 0, 1) := by decide +kernel
theorem dX6_feed_21 : decode cX6_feed 21 = .ok (.getfield 10, 3) := by decide +kernel
theorem dX6_feed_24 : decode cX6_feed 24 = .ok (.getfield 115, 3) := by decide +kernel
theorem dX6_feed_27 : decode cX6_feed 27 = .ok (.isub, 1) := by decide +kernel
theorem dX6_feed_28 : decode cX6_feed 28 = .ok (.if_icmp .le 9, 3) := by decide +kernel
theorem dX6_feed_31 : decode cX6_feed 31 = .ok (.aload_n 0, 1) := by decide +kernel
theorem dX6_feed_32 : decode cX6_feed 32 = .ok (.iconst 4, 1) := by decide +kernel
theorem dX6_feed_33 : decode cX6_feed 33 = .ok (.invokevirtual 64, 3) := by decide +kernel
theorem dX6_feed_36 : decode cX6_feed 36 = .ok (.ireturn, 1) := by decide +kernel
theorem dX6_feed_37 : decode cX6_feed 37 = .ok (.aload_n 0, 1) := by decide +kernel
theorem dX6_feed_38 : decode cX6_feed 38 = .ok (.getfield 10, 3) := by decide +kernel
theorem dX6_feed_41 : decode cX6_feed 41 = .ok (.lload_n 1, 1) := by decide +kernel
theorem dX6_feed_42 : decode cX6_feed 42 = .ok (.iload_n 3, 1) := by decide +kernel
theorem dX6_feed_43 : decode cX6_feed 43 = .ok (.invokevirtual 118, 3) := by decide +kernel
theorem dX6_feed_46 : decode cX6_feed 46 = .ok (.ireturn, 1) := by decide +kernel
theorem dX6_text_0 : decode cX6_text 0 = .ok (.iload_n 1, 1) := by decide +kernel
theorem dX6_text_1 : decode cX6_text 1 = .ok (.invokestatic 122, 3) := by decide +kernel
theorem dX6_text_4 : decode cX6_text 4 = .ok (.ifCond .ne 9, 3) := by decide +kernel
theorem dX6_text_7 : decode cX6_text 7 = .ok (.aload_n 0, 1) := by decide +kernel
theorem dX6_text_8 : decode cX6_text 8 = .ok (.iconst 1, 1) := by decide +kernel
theorem dX6_text_9 : decode cX6_text 9 = .ok (.invokevirtual 64, 3) := by decide +kernel
theorem dX6_text_12 : decode cX6_text 12 = .ok (.ireturn, 1) := by decide +kernel
theorem dX6_text_13 : decode cX6_text 13 = .ok (.aload_n 0, 1) := by decide +kernel
theorem dX6_text_14 : decode cX6_text 14 = .ok (.getfield 32, 3) := by decide +kernel
theorem dX6_text_17 : decode cX6_text 17 = .ok (.aload_n 0, 1) := by decide +kernel
theorem dX6_text_18 : decode cX6_text 18 = .ok (.getfield 10, 3) := by decide +kernel
theorem dX6_text_21 : decode cX6_text 21 = .ok (.getfield 125, 3) := by decide +kernel
theorem dX6_text_24 : decode cX6_text 24 = .ok (.aload_n 0, 1) := by decide +kernel
theorem dX6_text_25 : decode cX6_text 25 = .ok (.getfield 10, 3) := by decide +kernel
theorem dX6_text_28 : decode cX6_text 28 = .ok (.getfield 115, 3) := by decide +kernel
theorem dX6_text_31 : decode cX6_text 31 = .ok (.iload_n 1, 1) := by decide +kernel
theorem dX6_text_32 : decode cX6_text 32 = .ok (.aload_n 0, 1) := by decide +kernel
theorem dX6_text_33 : decode cX6_text 33 = .ok (.getfield 10, 3) := by decide +kernel
theorem dX6_text_36 : decode cX6_text 36 = .ok (.iload_n 1, 1) := by decide +kernel
theorem dX6_text_37 : decode cX6_text 37 = .ok (.invokevirtual 129, 3) := by decide +kernel
theorem dX6_text_40 : decode cX6_text 40 = .ok (.invokevirtual 133, 3) := by decide +kernel
theorem dX6_text_43 : decode cX6_text 43 = .ok (.istore_n 2, 1) := by decide +kernel
theorem dX6_text_44 : decode cX6_text 44 = .ok (.aload_n 0, 1) := by decide +kernel
theorem dX6_text_45 : decode cX6_text 45 = .ok (.getfield 10, 3) := by decide +kernel
theorem dX6_text_48 : decode cX6_text 48 = .ok (.iconst 0, 1) := by decide +kernel
theorem dX6_text_49 : decode cX6_text 49 = .ok (.putfield 115, 3) := by decide +kernel
theorem dX6_text_52 : decode cX6_text 52 = .ok (.iload_n 2, 1) := by decide +kernel
theorem dX6_text_53 : decode cX6_text 53 = .ok (.ifCond .ge 7, 3) := by decide +kernel
theorem dX6_text_56 : decode cX6_text 56 = .ok (.iconst 1, 1) := by decide +kernel
theorem dX6_text_57 : decode cX6_text 57 = .ok (.goto 7, 3) := by decide +kernel
theorem dX6_text_60 : decode cX6_text 60 = .ok (.bipush (-10), 2) := by decide +kernel
theorem dX6_text_62 : decode cX6_text 62 = .ok (.iload_n 2, 1) := by decide +kernel
theorem dX6_text_63 : decode cX6_text 63 = .ok (.isub, 1) := by decide +kernel
theorem dX6_text_64 : decode cX6_text 64 = .ok (.ireturn, 1) := by decide +kernel
theorem dX6_untell_0 : decode cX6_untell 0 = .ok (.iload_n 1, 1) := by decide +kernel
theorem dX6_untell_1 : decode cX6_untell 1 = .ok (.invokestatic 122, 3) := by decide +kernel
theorem dX6_untell_4 : decode cX6_untell 4 = .ok (.ifCond .ne 9, 3) := by decide +kernel
theorem dX6_untell_7 : decode cX6_untell 7 = .ok (.aload_n 0, 1) := by decide +kernel
theorem dX6_untell_8 : decode cX6_untell 8 = .ok (.iconst 1, 1) := by decide +kernel
theorem dX6_untell_9 : decode cX6_untell 9 = .ok (.invokevirtual 64, 3) := by decide +kernel
theorem dX6_untell_12 : decode cX6_untell 12 = .ok (.ireturn, 1) := by decide +kernel
theorem dX6_untell_13 : decode cX6_untell 13 = .ok (.aload_n 0, 1) := by decide +kernel
theorem dX6_untell_14 : decode cX6_untell 14 = .ok (.getfield 10, 3) := by decide +kernel
theorem dX6_untell_17 : decode cX6_untell 17 = .ok (.iload_n 1, 1) := by decide +kernel
theorem dX6_untell_18 : decode cX6_untell 18 = .ok (.invokevirtual 129, 3) := by decide +kernel
theorem dX6_untell_21 : decode cX6_untell 21 = .ok (.astore_n 2, 1) := by decide +kernel
theorem dX6_untell_22 : decode cX6_untell 22 = .ok (.aload_n 2, 1) := by decide +kernel
theorem dX6_untell_23 : decode cX6_untell 23 = .ok (.getfield 137, 3) := by decide +kernel
theorem dX6_untell_26 : decode cX6_untell 26 = .ok (.ifCond .le 7, 3) := by decide +kernel
theorem dX6_untell_29 : decode cX6_untell 29 = .ok (.iconst 1, 1) := by decide +kernel
theorem dX6_untell_30 : decode cX6_untell 30 = .ok (.goto 4, 3) := by decide +kernel
theorem dX6_untell_33 : decode cX6_untell 33 = .ok (.iconst 0, 1) := by decide +kernel
theorem dX6_untell_34 : decode cX6_untell 34 = .ok (.istore_n 3, 1) := by decide +kernel
theorem dX6_untell_35 : decode cX6_untell 35 = .ok (.aload_n 2, 1) := by decide +kernel
theorem dX6_untell_36 : decode cX6_untell 36 = .ok (.iconst 0, 1) := by decide +kernel
theorem dX6_untell_37 : decode cX6_untell 37 = .ok (.putfield 137, 3) := by decide +kernel
theorem dX6_untell_40 : decode cX6_untell 40 = .ok (.iload_n 3, 1) := by decide +kernel
theorem dX6_untell_41 : decode cX6_untell 41 = .ok (.ireturn, 1) := by decide +kernel
theorem dX6_law_0 : decode cX6_law 0 = .ok (.iload_n 1, 1) := by decide +kernel
theorem dX6_law_1 : decode cX6_law 1 = .ok (.invokestatic 122, 3) := by decide +kernel
theorem dX6_law_4 : decode cX6_law 4 = .ok (.ifCond .eq 21, 3) := by decide +kernel
theorem dX6_law_7 : decode cX6_law 7 = .ok (.aload_n 0, 1) := by decide +kernel
theorem dX6_law_8 : decode cX6_law 8 = .ok (.getfield 10, 3) := by decide +kernel
theorem dX6_law_11 : decode cX6_law 11 = .ok (.iload_n 1, 1) := by decide +kernel
theorem dX6_law_12 : decode cX6_law 12 = .ok (.invokevirtual 129, 3) := by decide +kernel
theorem dX6_law_15 : decode cX6_law 15 = .ok (.iload_n 2, 1) := by decide +kernel
theorem dX6_law_16 : decode cX6_law 16 = .ok (.iload_n 3, 1) := by decide +kernel
theorem dX6_law_17 : decode cX6_law 17 = .ok (.iload 4, 2) := by decide +kernel
theorem dX6_law_19 : decode cX6_law 19 = .ok (.invokevirtual 142, 3) := by decide +kernel
theorem dX6_law_22 : decode cX6_law 22 = .ok (.goto 8, 3) := by decide +kernel
theorem dX6_law_25 : decode cX6_law 25 = .ok (.aload_n 0, 1) := by decide +kernel
theorem dX6_law_26 : decode cX6_law 26 = .ok (.iconst 1, 1) := by decide +kernel
theorem dX6_law_27 : decode cX6_law 27 = .ok (.invokevirtual 64, 3) := by decide +kernel
theorem dX6_law_30 : decode cX6_law 30 = .ok (.ireturn, 1) := by decide +kernel
theorem dX6_days_0 : decode cX6_days 0 = .ok (.iload_n 1, 1) := by decide +kernel
theorem dX6_days_1 : decode cX6_days 1 = .ok (.iconst 1, 1) := by decide +kernel
theorem dX6_days_2 : decode cX6_days 2 = .ok (.if_icmp .lt 9, 3) := by decide +kernel
theorem dX6_days_5 : decode cX6_days 5 = .ok (.iload_n 1, 1) := by decide +kernel
theorem dX6_days_6 : decode cX6_days 6 = .ok (.bipush 100, 2) := by decide +kernel
theorem dX6_days_8 : decode cX6_days 8 = .ok (.if_icmp .le 9, 3) := by decide +kernel
theorem dX6_days_11 : decode cX6_days 11 = .ok (.aload_n 0, 1) := by decide +kernel
theorem dX6_days_12 : decode cX6_days 12 = .ok (.iconst 1, 1) := by decide +kernel
theorem dX6_days_13 : decode cX6_days 13 = .ok (.invokevirtual 64, 3) := by decide +kernel
theorem dX6_days_16 : decode cX6_days 16 = .ok (.ireturn, 1) := by decide +kernel
theorem dX6_days_17 : decode cX6_days 17 = .ok (.iload_n 1, 1) := by decide +kernel
theorem dX6_days_18 : decode cX6_days 18 = .ok (.sipush 9999, 3) := by decide +kernel
theorem dX6_days_21 : decode cX6_days 21 = .ok (.aload_n 0, 1) := by decide +kernel
theorem dX6_days_22 : decode cX6_days 22 = .ok (.getfield 10, 3) := by decide +kernel
theorem dX6_days_25 : decode cX6_days 25 = .ok (.getfield 85, 3) := by decide +kernel
theorem dX6_days_28 : decode cX6_days 28 = .ok (.getfield 104, 3) := by decide +kernel
theorem dX6_days_31 : decode cX6_days 31 = .ok (.isub, 1) := by decide +kernel
theorem dX6_days_32 : decode cX6_days 32 = .ok (.if_icmp .le 9, 3) := by decide +kernel
theorem dX6_days_35 : decode cX6_days 35 = .ok (.aload_n 0, 1) := by decide +kernel
theorem dX6_days_36 : decode cX6_days 36 = .ok (.iconst 3, 1) := by decide +kernel
theorem dX6_days_37 : decode cX6_days 37 = .ok (.invokevirtual 64, 3) := by decide +kernel
theorem dX6_days_40 : decode cX6_days 40 = .ok (.ireturn, 1) := by decide +kernel
theorem dX6_days_41 : decode cX6_days 41 = .ok (.iconst 0, 1) := by decide +kernel
theorem dX6_days_42 : decode cX6_days 42 = .ok (.istore_n 2, 1) := by decide +kernel
theorem dX6_days_43 : decode cX6_days 43 = .ok (.iload_n 2, 1) := by decide +kernel
theorem dX6_days_44 : decode cX6_days 44 = .ok (.iload_n 1, 1) := by decide +kernel
theorem dX6_days_45 : decode cX6_days 45 = .ok (.if_icmp .ge 24, 3) := by decide +kernel
theorem dX6_days_48 : decode cX6_days 48 = .ok (.aload_n 0, 1) := by decide +kernel
theorem dX6_days_49 : decode cX6_days 49 = .ok (.getfield 10, 3) := by decide +kernel
theorem dX6_days_52 : decode cX6_days 52 = .ok (.aload_n 0, 1) := by decide +kernel
theorem dX6_days_53 : decode cX6_days 53 = .ok (.getfield 10, 3) := by decide +kernel
theorem dX6_days_56 : decode cX6_days 56 = .ok (.getfield 85, 3) := by decide +kernel
theorem dX6_days_59 : decode cX6_days 59 = .ok (.invokevirtual 145, 3) := by decide +kernel
theorem dX6_days_62 : decode cX6_days 62 = .ok (.pop, 1) := by decide +kernel
theorem dX6_days_63 : decode cX6_days 63 = .ok (.iinc 2 1, 3) := by decide +kernel
theorem dX6_days_66 : decode cX6_days 66 = .ok (.goto (-23), 3) := by decide +kernel
theorem dX6_days_69 : decode cX6_days 69 = .ok (.aload_n 0, 1) := by decide +kernel
theorem dX6_days_70 : decode cX6_days 70 = .ok (.getfield 10, 3) := by decide +kernel
theorem dX6_days_73 : decode cX6_days 73 = .ok (.getfield 85, 3) := by decide +kernel
theorem dX6_days_76 : decode cX6_days 76 = .ok (.getfield 104, 3) := by decide +kernel
theorem dX6_days_79 : decode cX6_days 79 = .ok (.ireturn, 1) := by decide +kernel
theorem dX6_loose_0 : decode cX6_loose 0 = .ok (.iload_n 1, 1) := by decide +kernel
theorem dX6_loose_1 : decode cX6_loose 1 = .ok (.iconst 1, 1) := by decide +kernel
theorem dX6_loose_2 : decode cX6_loose 2 = .ok (.if_icmp .lt 9, 3) := by decide +kernel
theorem dX6_loose_5 : decode cX6_loose 5 = .ok (.iload_n 1, 1) := by decide +kernel
theorem dX6_loose_6 : decode cX6_loose 6 = .ok (.bipush 30, 2) := by decide +kernel
theorem dX6_loose_8 : decode cX6_loose 8 = .ok (.if_icmp .le 9, 3) := by decide +kernel
theorem dX6_loose_11 : decode cX6_loose 11 = .ok (.aload_n 0, 1) := by decide +kernel
theorem dX6_loose_12 : decode cX6_loose 12 = .ok (.iconst 1, 1) := by decide +kernel
theorem dX6_loose_13 : decode cX6_loose 13 = .ok (.invokevirtual 64, 3) := by decide +kernel
theorem dX6_loose_16 : decode cX6_loose 16 = .ok (.ireturn, 1) := by decide +kernel
theorem dX6_loose_17 : decode cX6_loose 17 = .ok (.iload_n 1, 1) := by decide +kernel
theorem dX6_loose_18 : decode cX6_loose 18 = .ok (.sipush 9999, 3) := by decide +kernel
theorem dX6_loose_21 : decode cX6_loose 21 = .ok (.aload_n 0, 1) := by decide +kernel
theorem dX6_loose_22 : decode cX6_loose 22 = .ok (.getfield 10, 3) := by decide +kernel
theorem dX6_loose_25 : decode cX6_loose 25 = .ok (.getfield 85, 3) := by decide +kernel
theorem dX6_loose_28 : decode cX6_loose 28 = .ok (.getfield 104, 3) := by decide +kernel
theorem dX6_loose_31 : decode cX6_loose 31 = .ok (.isub, 1) := by decide +kernel
theorem dX6_loose_32 : decode cX6_loose 32 = .ok (.if_icmp .le 9, 3) := by decide +kernel
theorem dX6_loose_35 : decode cX6_loose 35 = .ok (.aload_n 0, 1) := by decide +kernel
theorem dX6_loose_36 : decode cX6_loose 36 = .ok (.iconst 3, 1) := by decide +kernel
theorem dX6_loose_37 : decode cX6_loose 37 = .ok (.invokevirtual 64, 3) := by decide +kernel
theorem dX6_loose_40 : decode cX6_loose 40 = .ok (.ireturn, 1) := by decide +kernel
theorem dX6_loose_41 : decode cX6_loose 41 = .ok (.iconst 0, 1) := by decide +kernel
theorem dX6_loose_42 : decode cX6_loose 42 = .ok (.istore_n 2, 1) := by decide +kernel
theorem dX6_loose_43 : decode cX6_loose 43 = .ok (.iload_n 2, 1) := by decide +kernel
theorem dX6_loose_44 : decode cX6_loose 44 = .ok (.iload_n 1, 1) := by decide +kernel
theorem dX6_loose_45 : decode cX6_loose 45 = .ok (.if_icmp .ge 31, 3) := by decide +kernel
theorem dX6_loose_48 : decode cX6_loose 48 = .ok (.aload_n 0, 1) := by decide +kernel
theorem dX6_loose_49 : decode cX6_loose 49 = .ok (.getfield 10, 3) := by decide +kernel
theorem dX6_loose_52 : decode cX6_loose 52 = .ok (.invokevirtual 149, 3) := by decide +kernel
theorem dX6_loose_55 : decode cX6_loose 55 = .ok (.aload_n 0, 1) := by decide +kernel
theorem dX6_loose_56 : decode cX6_loose 56 = .ok (.getfield 10, 3) := by decide +kernel
theorem dX6_loose_59 : decode cX6_loose 59 = .ok (.aload_n 0, 1) := by decide +kernel
theorem dX6_loose_60 : decode cX6_loose 60 = .ok (.getfield 10, 3) := by decide +kernel
theorem dX6_loose_63 : decode cX6_loose 63 = .ok (.getfield 85, 3) := by decide +kernel
theorem dX6_loose_66 : decode cX6_loose 66 = .ok (.invokevirtual 145, 3) := by decide +kernel
theorem dX6_loose_69 : decode cX6_loose 69 = .ok (.pop, 1) := by decide +kernel
theorem dX6_loose_70 : decode cX6_loose 70 = .ok (.iinc 2 1, 3) := by decide +kernel
theorem dX6_loose_73 : decode cX6_loose 73 = .ok (.goto (-30), 3) := by decide +kernel
theorem dX6_loose_76 : decode cX6_loose 76 = .ok (.aload_n 0, 1) := by decide +kernel
theorem dX6_loose_77 : decode cX6_loose 77 = .ok (.getfield 10, 3) := by decide +kernel
theorem dX6_loose_80 : decode cX6_loose 80 = .ok (.aload_n 0, 1) := by decide +kernel
theorem dX6_loose_81 : decode cX6_loose 81 = .ok (.getfield 10, 3) := by decide +kernel
theorem dX6_loose_84 : decode cX6_loose 84 = .ok (.getfield 85, 3) := by decide +kernel
theorem dX6_loose_87 : decode cX6_loose 87 = .ok (.invokevirtual 152, 3) := by decide +kernel
theorem dX6_loose_90 : decode cX6_loose 90 = .ok (.ireturn, 1) := by decide +kernel
theorem dX6_seed_0 : decode cX6_seed 0 = .ok (.aload_n 0, 1) := by decide +kernel
theorem dX6_seed_1 : decode cX6_seed 1 = .ok (.getfield 10, 3) := by decide +kernel
theorem dX6_seed_4 : decode cX6_seed 4 = .ok (.getfield 156, 3) := by decide +kernel
theorem dX6_seed_7 : decode cX6_seed 7 = .ok (.istore_n 2, 1) := by decide +kernel
theorem dX6_seed_8 : decode cX6_seed 8 = .ok (.aload_n 0, 1) := by decide +kernel
theorem dX6_seed_9 : decode cX6_seed 9 = .ok (.getfield 10, 3) := by decide +kernel
theorem dX6_seed_12 : decode cX6_seed 12 = .ok (.iload_n 1, 1) := by decide +kernel
theorem dX6_seed_13 : decode cX6_seed 13 = .ok (.putfield 156, 3) := by decide +kernel
theorem dX6_seed_16 : decode cX6_seed 16 = .ok (.iload_n 2, 1) := by decide +kernel
theorem dX6_seed_17 : decode cX6_seed 17 = .ok (.ireturn, 1) := by decide +kernel
theorem dX6_nearest_0 : decode cX6_nearest 0 = .ok (.iload_n 1, 1) := by decide +kernel
theorem dX6_nearest_1 : decode cX6_nearest 1 = .ok (.bipush 100, 2) := by decide +kernel
theorem dX6_nearest_3 : decode cX6_nearest 3 = .ok (.invokestatic 97, 3) := by decide +kernel
theorem dX6_nearest_6 : decode cX6_nearest 6 = .ok (.ifCond .ne 9, 3) := by decide +kernel
theorem dX6_nearest_9 : decode cX6_nearest 9 = .ok (.aload_n 0, 1) := by decide +kernel
theorem dX6_nearest_10 : decode cX6_nearest 10 = .ok (.iconst 1, 1) := by decide +kernel
theorem dX6_nearest_11 : decode cX6_nearest 11 = .ok (.invokevirtual 64, 3) := by decide +kernel
theorem dX6_nearest_14 : decode cX6_nearest 14 = .ok (.ireturn, 1) := by decide +kernel
theorem dX6_nearest_15 : decode cX6_nearest 15 = .ok (.aload_n 0, 1) := by decide +kernel
theorem dX6_nearest_16 : decode cX6_nearest 16 = .ok (.getfield 10, 3) := by decide +kernel
theorem dX6_nearest_19 : decode cX6_nearest 19 = .ok (.getfield 68, 3) := by decide +kernel
theorem dX6_nearest_22 : decode cX6_nearest 22 = .ok (.ifCond .ne 9, 3) := by decide +kernel
theorem dX6_nearest_25 : decode cX6_nearest 25 = .ok (.aload_n 0, 1) := by decide +kernel
theorem dX6_nearest_26 : decode cX6_nearest 26 = .ok (.iconst 3, 1) := by decide +kernel
theorem dX6_nearest_27 : decode cX6_nearest 27 = .ok (.invokevirtual 64, 3) := by decide +kernel
theorem dX6_nearest_30 : decode cX6_nearest 30 = .ok (.ireturn, 1) := by decide +kernel
theorem dX6_nearest_31 : decode cX6_nearest 31 = .ok (.aload_n 0, 1) := by decide +kernel
theorem dX6_nearest_32 : decode cX6_nearest 32 = .ok (.iload_n 1, 1) := by decide +kernel
theorem dX6_nearest_33 : decode cX6_nearest 33 = .ok (.invokevirtual 159, 3) := by decide +kernel
theorem dX6_nearest_36 : decode cX6_nearest 36 = .ok (.aload_n 0, 1) := by decide +kernel
theorem dX6_nearest_37 : decode cX6_nearest 37 = .ok (.getfield 10, 3) := by decide +kernel
theorem dX6_nearest_40 : decode cX6_nearest 40 = .ok (.aload_n 0, 1) := by decide +kernel
theorem dX6_nearest_41 : decode cX6_nearest 41 = .ok (.getfield 22, 3) := by decide +kernel
theorem dX6_nearest_44 : decode cX6_nearest 44 = .ok (.invokevirtual 152, 3) := by decide +kernel
theorem dX6_nearest_47 : decode cX6_nearest 47 = .ok (.ireturn, 1) := by decide +kernel
theorem dX6_then_0 : decode cX6_then 0 = .ok (.aload_n 0, 1) := by decide +kernel
theorem dX6_then_1 : decode cX6_then 1 = .ok (.getfield 10, 3) := by decide +kernel
theorem dX6_then_4 : decode cX6_then 4 = .ok (.iload_n 1, 1) := by decide +kernel
theorem dX6_then_5 : decode cX6_then 5 = .ok (.invokevirtual 76, 3) := by decide +kernel
theorem dX6_then_8 : decode cX6_then 8 = .ok (.ifCond .eq 20, 3) := by decide +kernel
theorem dX6_then_11 : decode cX6_then 11 = .ok (.iload_n 2, 1) := by decide +kernel
theorem dX6_then_12 : decode cX6_then 12 = .ok (.bipush 100, 2) := by decide +kernel
theorem dX6_then_14 : decode cX6_then 14 = .ok (.invokestatic 97, 3) := by decide +kernel
theorem dX6_then_17 : decode cX6_then 17 = .ok (.ifCond .eq 11, 3) := by decide +kernel
theorem dX6_then_20 : decode cX6_then 20 = .ok (.iload_n 3, 1) := by decide +kernel
theorem dX6_then_21 : decode cX6_then 21 = .ok (.iconst 1, 1) := by decide +kernel
theorem dX6_then_22 : decode cX6_then 22 = .ok (.invokestatic 97, 3) := by decide +kernel
theorem dX6_then_25 : decode cX6_then 25 = .ok (.ifCond .ne 9, 3) := by decide +kernel
theorem dX6_then_28 : decode cX6_then 28 = .ok (.aload_n 0, 1) := by decide +kernel
theorem dX6_then_29 : decode cX6_then 29 = .ok (.iconst 1, 1) := by decide +kernel
theorem dX6_then_30 : decode cX6_then 30 = .ok (.invokevirtual 64, 3) := by decide +kernel
theorem dX6_then_33 : decode cX6_then 33 = .ok (.ireturn, 1) := by decide +kernel
theorem dX6_then_34 : decode cX6_then 34 = .ok (.aload_n 0, 1) := by decide +kernel
theorem dX6_then_35 : decode cX6_then 35 = .ok (.iload_n 2, 1) := by decide +kernel
theorem dX6_then_36 : decode cX6_then 36 = .ok (.invokevirtual 159, 3) := by decide +kernel
theorem dX6_then_39 : decode cX6_then 39 = .ok (.iload_n 3, 1) := by decide +kernel
theorem dX6_then_40 : decode cX6_then 40 = .ok (.ifCond .ne 15, 3) := by decide +kernel
theorem dX6_then_43 : decode cX6_then 43 = .ok (.aload_n 0, 1) := by decide +kernel
theorem dX6_then_44 : decode cX6_then 44 = .ok (.getfield 22, 3) := by decide +kernel
theorem dX6_then_47 : decode cX6_then 47 = .ok (.getfield 88, 3) := by decide +kernel
theorem dX6_then_50 : decode cX6_then 50 = .ok (.iload_n 1, 1) := by decide +kernel
theorem dX6_then_51 : decode cX6_then 51 = .ok (.iaload, 1) := by decide +kernel
theorem dX6_then_52 : decode cX6_then 52 = .ok (.goto 12, 3) := by decide +kernel
theorem dX6_then_55 : decode cX6_then 55 = .ok (.aload_n 0, 1) := by decide +kernel
theorem dX6_then_56 : decode cX6_then 56 = .ok (.getfield 22, 3) := by decide +kernel
theorem dX6_then_59 : decode cX6_then 59 = .ok (.getfield 91, 3) := by decide +kernel
theorem dX6_then_62 : decode cX6_then 62 = .ok (.iload_n 1, 1) := by decide +kernel
theorem dX6_then_63 : decode cX6_then 63 = .ok (.iaload, 1) := by decide +kernel
theorem dX6_then_64 : decode cX6_then 64 = .ok (.ireturn, 1) := by decide +kernel
theorem dX6_settles_0 : decode cX6_settles 0 = .ok (.aload_n 0, 1) := by decide +kernel
theorem dX6_settles_1 : decode cX6_settles 1 = .ok (.iconst 0, 1) := by decide +kernel
theorem dX6_settles_2 : decode cX6_settles 2 = .ok (.invokevirtual 159, 3) := by decide +kernel
theorem dX6_settles_5 : decode cX6_settles 5 = .ok (.iconst 0, 1) := by decide +kernel
theorem dX6_settles_6 : decode cX6_settles 6 = .ok (.istore_n 1, 1) := by decide +kernel
theorem dX6_settles_7 : decode cX6_settles 7 = .ok (.iload_n 1, 1) := by decide +kernel
theorem dX6_settles_8 : decode cX6_settles 8 = .ok (.bipush 100, 2) := by decide +kernel
theorem dX6_settles_10 : decode cX6_settles 10 = .ok (.if_icmp .gt 25, 3) := by decide +kernel
theorem dX6_settles_13 : decode cX6_settles 13 = .ok (.aload_n 0, 1) := by decide +kernel
theorem dX6_settles_14 : decode cX6_settles 14 = .ok (.getfield 10, 3) := by decide +kernel
theorem dX6_settles_17 : decode cX6_settles 17 = .ok (.aload_n 0, 1) := by decide +kernel
theorem dX6_settles_18 : decode cX6_settles 18 = .ok (.getfield 22, 3) := by decide +kernel
theorem dX6_settles_21 : decode cX6_settles 21 = .ok (.invokevirtual 145, 3) := by decide +kernel
theorem dX6_settles_24 : decode cX6_settles 24 = .ok (.ifCond .ne 5, 3) := by decide +kernel
theorem dX6_settles_27 : decode cX6_settles 27 = .ok (.iload_n 1, 1) := by decide +kernel
theorem dX6_settles_28 : decode cX6_settles 28 = .ok (.ireturn, 1) := by decide +kernel
theorem dX6_settles_29 : decode cX6_settles 29 = .ok (.iinc 1 1, 3) := by decide +kernel
theorem dX6_settles_32 : decode cX6_settles 32 = .ok (.goto (-25), 3) := by decide +kernel
theorem dX6_settles_35 : decode cX6_settles 35 = .ok (.aload_n 0, 1) := by decide +kernel
theorem dX6_settles_36 : decode cX6_settles 36 = .ok (.iconst 2, 1) := by decide +kernel
theorem dX6_settles_37 : decode cX6_settles 37 = .ok (.invokevirtual 64, 3) := by decide +kernel
theorem dX6_settles_40 : decode cX6_settles 40 = .ok (.ireturn, 1) := by decide +kernel
theorem dX6_rank_0 : decode cX6_rank 0 = .ok (.aload_n 0, 1) := by decide +kernel
theorem dX6_rank_1 : decode cX6_rank 1 = .ok (.getfield 10, 3) := by decide +kernel
theorem dX6_rank_4 : decode cX6_rank 4 = .ok (.iload_n 1, 1) := by decide +kernel
theorem dX6_rank_5 : decode cX6_rank 5 = .ok (.invokevirtual 76, 3) := by decide +kernel
theorem dX6_rank_8 : decode cX6_rank 8 = .ok (.ifCond .eq 14, 3) := by decide +kernel
theorem dX6_rank_11 : decode cX6_rank 11 = .ok (.aload_n 0, 1) := by decide +kernel
theorem dX6_rank_12 : decode cX6_rank 12 = .ok (.getfield 10, 3) := by decide +kernel
theorem dX6_rank_15 : decode cX6_rank 15 = .ok (.iload_n 1, 1) := by decide +kernel
theorem dX6_rank_16 : decode cX6_rank 16 = .ok (.invokevirtual 163, 3) := by decide +kernel
theorem dX6_rank_19 : decode cX6_rank 19 = .ok (.goto 8, 3) := by decide +kernel
theorem dX6_rank_22 : decode cX6_rank 22 = .ok (.aload_n 0, 1) := by decide +kernel
theorem dX6_rank_23 : decode cX6_rank 23 = .ok (.iconst 1, 1) := by decide +kernel
theorem dX6_rank_24 : decode cX6_rank 24 = .ok (.invokevirtual 64, 3) := by decide +kernel
theorem dX6_rank_27 : decode cX6_rank 27 = .ok (.ireturn, 1) := by decide +kernel
theorem dX6_signs_0 : decode cX6_signs 0 = .ok (.aload_n 0, 1) := by decide +kernel
theorem dX6_signs_1 : decode cX6_signs 1 = .ok (.getfield 10, 3) := by decide +kernel
theorem dX6_signs_4 : decode cX6_signs 4 = .ok (.iload_n 1, 1) := by decide +kernel
theorem dX6_signs_5 : decode cX6_signs 5 = .ok (.invokevirtual 76, 3) := by decide +kernel
theorem dX6_signs_8 : decode cX6_signs 8 = .ok (.ifCond .eq 29, 3) := by decide +kernel
theorem dX6_signs_11 : decode cX6_signs 11 = .ok (.iload_n 2, 1) := by decide +kernel
theorem dX6_signs_12 : decode cX6_signs 12 = .ok (.invokestatic 61, 3) := by decide +kernel
theorem dX6_signs_15 : decode cX6_signs 15 = .ok (.ifCond .eq 22, 3) := by decide +kernel
theorem dX6_signs_18 : decode cX6_signs 18 = .ok (.iload_n 3, 1) := by decide +kernel
theorem dX6_signs_19 : decode cX6_signs 19 = .ok (.iconst 1, 1) := by decide +kernel
theorem dX6_signs_20 : decode cX6_signs 20 = .ok (.if_icmp .lt 17, 3) := by decide +kernel
theorem dX6_signs_23 : decode cX6_signs 23 = .ok (.iload_n 3, 1) := by decide +kernel
theorem dX6_signs_24 : decode cX6_signs 24 = .ok (.iconst 4, 1) := by decide +kernel
theorem dX6_signs_25 : decode cX6_signs 25 = .ok (.if_icmp .gt 12, 3) := by decide +kernel
theorem dX6_signs_28 : decode cX6_signs 28 = .ok (.iload 4, 2) := by decide +kernel
theorem dX6_signs_30 : decode cX6_signs 30 = .ok (.iconst 1, 1) := by decide +kernel
theorem dX6_signs_31 : decode cX6_signs 31 = .ok (.invokestatic 97, 3) := by decide +kernel
theorem dX6_signs_34 : decode cX6_signs 34 = .ok (.ifCond .ne 9, 3) := by decide +kernel
theorem dX6_signs_37 : decode cX6_signs 37 = .ok (.aload_n 0, 1) := by decide +kernel
theorem dX6_signs_38 : decode cX6_signs 38 = .ok (.iconst 1, 1) := by decide +kernel
theorem dX6_signs_39 : decode cX6_signs 39 = .ok (.invokevirtual 64, 3) := by decide +kernel
theorem dX6_signs_42 : decode cX6_signs 42 = .ok (.ireturn, 1) := by decide +kernel
theorem dX6_signs_43 : decode cX6_signs 43 = .ok (.aload_n 0, 1) := by decide +kernel
theorem dX6_signs_44 : decode cX6_signs 44 = .ok (.iload_n 3, 1) := by decide +kernel
theorem dX6_signs_45 : decode cX6_signs 45 = .ok (.invokevirtual 159, 3) := by decide +kernel
theorem dX6_signs_48 : decode cX6_signs 48 = .ok (.aload_n 0, 1) := by decide +kernel
theorem dX6_signs_49 : decode cX6_signs 49 = .ok (.iload_n 2, 1) := by decide +kernel
theorem dX6_signs_50 : decode cX6_signs 50 = .ok (.iload_n 3, 1) := by decide +kernel
theorem dX6_signs_51 : decode cX6_signs 51 = .ok (.invokevirtual 166, 3) := by decide +kernel
theorem dX6_signs_54 : decode cX6_signs 54 = .ok (.aload_n 0, 1) := by decide +kernel
theorem dX6_signs_55 : decode cX6_signs 55 = .ok (.iload_n 1, 1) := by decide +kernel
theorem dX6_signs_56 : decode cX6_signs 56 = .ok (.invokevirtual 170, 3) := by decide +kernel
theorem dX6_signs_59 : decode cX6_signs 59 = .ok (.istore 5, 2) := by decide +kernel
theorem dX6_signs_61 : decode cX6_signs 61 = .ok (.iload 5, 2) := by decide +kernel
theorem dX6_signs_63 : decode cX6_signs 63 = .ok (.ifCond .ge 9, 3) := by decide +kernel
theorem dX6_signs_66 : decode cX6_signs 66 = .ok (.aload_n 0, 1) := by decide +kernel
theorem dX6_signs_67 : decode cX6_signs 67 = .ok (.iconst 2, 1) := by decide +kernel
theorem dX6_signs_68 : decode cX6_signs 68 = .ok (.invokevirtual 64, 3) := by decide +kernel
theorem dX6_signs_71 : decode cX6_signs 71 = .ok (.ireturn, 1) := by decide +kernel
theorem dX6_signs_72 : decode cX6_signs 72 = .ok (.iload 4, 2) := by decide +kernel
theorem dX6_signs_74 : decode cX6_signs 74 = .ok (.ifCond .ne 11, 3) := by decide +kernel
theorem dX6_signs_77 : decode cX6_signs 77 = .ok (.iload 5, 2) := by decide +kernel
theorem dX6_signs_79 : decode cX6_signs 79 = .ok (.invokestatic 173, 3) := by decide +kernel
theorem dX6_signs_82 : decode cX6_signs 82 = .ok (.goto 5, 3) := by decide +kernel
theorem dX6_signs_85 : decode cX6_signs 85 = .ok (.iload 5, 2) := by decide +kernel
theorem dX6_signs_87 : decode cX6_signs 87 = .ok (.ireturn, 1) := by decide +kernel
theorem dX6_heard_0 : decode cX6_heard 0 = .ok (.aload_n 0, 1) := by decide +kernel
theorem dX6_heard_1 : decode cX6_heard 1 = .ok (.getfield 10, 3) := by decide +kernel
theorem dX6_heard_4 : decode cX6_heard 4 = .ok (.iload_n 1, 1) := by decide +kernel
theorem dX6_heard_5 : decode cX6_heard 5 = .ok (.invokevirtual 76, 3) := by decide +kernel
theorem dX6_heard_8 : decode cX6_heard 8 = .ok (.ifCond .eq 14, 3) := by decide +kernel
theorem dX6_heard_11 : decode cX6_heard 11 = .ok (.aload_n 0, 1) := by decide +kernel
theorem dX6_heard_12 : decode cX6_heard 12 = .ok (.getfield 10, 3) := by decide +kernel
theorem dX6_heard_15 : decode cX6_heard 15 = .ok (.iload_n 1, 1) := by decide +kernel
theorem dX6_heard_16 : decode cX6_heard 16 = .ok (.invokevirtual 178, 3) := by decide +kernel
theorem dX6_heard_19 : decode cX6_heard 19 = .ok (.goto 8, 3) := by decide +kernel
theorem dX6_heard_22 : decode cX6_heard 22 = .ok (.aload_n 0, 1) := by decide +kernel
theorem dX6_heard_23 : decode cX6_heard 23 = .ok (.iconst 1, 1) := by decide +kernel
theorem dX6_heard_24 : decode cX6_heard 24 = .ok (.invokevirtual 64, 3) := by decide +kernel
theorem dX6_heard_27 : decode cX6_heard 27 = .ok (.ireturn, 1) := by decide +kernel
theorem dX6_odds_0 : decode cX6_odds 0 = .ok (.aload_n 0, 1) := by decide +kernel
theorem dX6_odds_1 : decode cX6_odds 1 = .ok (.getfield 10, 3) := by decide +kernel
theorem dX6_odds_4 : decode cX6_odds 4 = .ok (.iload_n 1, 1) := by decide +kernel
theorem dX6_odds_5 : decode cX6_odds 5 = .ok (.invokevirtual 76, 3) := by decide +kernel
theorem dX6_odds_8 : decode cX6_odds 8 = .ok (.ifCond .eq 11, 3) := by decide +kernel
theorem dX6_odds_11 : decode cX6_odds 11 = .ok (.iload_n 2, 1) := by decide +kernel
theorem dX6_odds_12 : decode cX6_odds 12 = .ok (.iconst 1, 1) := by decide +kernel
theorem dX6_odds_13 : decode cX6_odds 13 = .ok (.invokestatic 97, 3) := by decide +kernel
theorem dX6_odds_16 : decode cX6_odds 16 = .ok (.ifCond .ne 9, 3) := by decide +kernel
theorem dX6_odds_19 : decode cX6_odds 19 = .ok (.aload_n 0, 1) := by decide +kernel
theorem dX6_odds_20 : decode cX6_odds 20 = .ok (.iconst 1, 1) := by decide +kernel
theorem dX6_odds_21 : decode cX6_odds 21 = .ok (.invokevirtual 64, 3) := by decide +kernel
theorem dX6_odds_24 : decode cX6_odds 24 = .ok (.ireturn, 1) := by decide +kernel
theorem dX6_odds_25 : decode cX6_odds 25 = .ok (.aload_n 0, 1) := by decide +kernel
theorem dX6_odds_26 : decode cX6_odds 26 = .ok (.getfield 10, 3) := by decide +kernel
theorem dX6_odds_29 : decode cX6_odds 29 = .ok (.getfield 68, 3) := by decide +kernel
theorem dX6_odds_32 : decode cX6_odds 32 = .ok (.iconst 1, 1) := by decide +kernel
theorem dX6_odds_33 : decode cX6_odds 33 = .ok (.isub, 1) := by decide +kernel
theorem dX6_odds_34 : decode cX6_odds 34 = .ok (.istore_n 3, 1) := by decide +kernel
theorem dX6_odds_35 : decode cX6_odds 35 = .ok (.iload_n 3, 1) := by decide +kernel
theorem dX6_odds_36 : decode cX6_odds 36 = .ok (.iconst 1, 1) := by decide +kernel
theorem dX6_odds_37 : decode cX6_odds 37 = .ok (.if_icmp .ge 9, 3) := by decide +kernel
theorem dX6_odds_40 : decode cX6_odds 40 = .ok (.aload_n 0, 1) := by decide +kernel
theorem dX6_odds_41 : decode cX6_odds 41 = .ok (.iconst 3, 1) := by decide +kernel
theorem dX6_odds_42 : decode cX6_odds 42 = .ok (.invokevirtual 64, 3) := by decide +kernel
theorem dX6_odds_45 : decode cX6_odds 45 = .ok (.ireturn, 1) := by decide +kernel
theorem dX6_odds_46 : decode cX6_odds 46 = .ok (.aload_n 0, 1) := by decide +kernel
theorem dX6_odds_47 : decode cX6_odds 47 = .ok (.getfield 10, 3) := by decide +kernel
theorem dX6_odds_50 : decode cX6_odds 50 = .ok (.iload_n 1, 1) := by decide +kernel
theorem dX6_odds_51 : decode cX6_odds 51 = .ok (.invokevirtual 181, 3) := by decide +kernel
theorem dX6_odds_54 : decode cX6_odds 54 = .ok (.istore 4, 2) := by decide +kernel
theorem dX6_odds_56 : decode cX6_odds 56 = .ok (.iload 4, 2) := by decide +kernel
theorem dX6_odds_58 : decode cX6_odds 58 = .ok (.iload_n 3, 1) := by decide +kernel
theorem dX6_odds_59 : decode cX6_odds 59 = .ok (.invokestatic 184, 3) := by decide +kernel
theorem dX6_odds_62 : decode cX6_odds 62 = .ok (.istore 5, 2) := by decide +kernel
theorem dX6_odds_64 : decode cX6_odds 64 = .ok (.iload 5, 2) := by decide +kernel
theorem dX6_odds_66 : decode cX6_odds 66 = .ok (.iconst 1, 1) := by decide +kernel
theorem dX6_odds_67 : decode cX6_odds 67 = .ok (.if_icmp .ge 9, 3) := by decide +kernel
theorem dX6_odds_70 : decode cX6_odds 70 = .ok (.aload_n 0, 1) := by decide +kernel
theorem dX6_odds_71 : decode cX6_odds 71 = .ok (.iconst 3, 1) := by decide +kernel
theorem dX6_odds_72 : decode cX6_odds 72 = .ok (.invokevirtual 64, 3) := by decide +kernel
theorem dX6_odds_75 : decode cX6_odds 75 = .ok (.ireturn, 1) := by decide +kernel
theorem dX6_odds_76 : decode cX6_odds 76 = .ok (.iload_n 2, 1) := by decide +kernel
theorem dX6_odds_77 : decode cX6_odds 77 = .ok (.ifCond .ne 11, 3) := by decide +kernel
theorem dX6_odds_80 : decode cX6_odds 80 = .ok (.iload 4, 2) := by decide +kernel
theorem dX6_odds_82 : decode cX6_odds 82 = .ok (.iload 5, 2) := by decide +kernel
theorem dX6_odds_84 : decode cX6_odds 84 = .ok (.idiv, 1) := by decide +kernel
theorem dX6_odds_85 : decode cX6_odds 85 = .ok (.goto 7, 3) := by decide +kernel
theorem dX6_odds_88 : decode cX6_odds 88 = .ok (.iload_n 3, 1) := by decide +kernel
theorem dX6_odds_89 : decode cX6_odds 89 = .ok (.iload 5, 2) := by decide +kernel
theorem dX6_odds_91 : decode cX6_odds 91 = .ok (.idiv, 1) := by decide +kernel
theorem dX6_odds_92 : decode cX6_odds 92 = .ok (.ireturn, 1) := by decide +kernel
theorem dX6_began_0 : decode cX6_began 0 = .ok (.iload_n 1, 1) := by decide +kernel
theorem dX6_began_1 : decode cX6_began 1 = .ok (.invokestatic 187, 3) := by decide +kernel
theorem dX6_began_4 : decode cX6_began 4 = .ok (.ifCond .eq 20, 3) := by decide +kernel
theorem dX6_began_7 : decode cX6_began 7 = .ok (.iload_n 2, 1) := by decide +kernel
theorem dX6_began_8 : decode cX6_began 8 = .ok (.bipush 20, 2) := by decide +kernel
theorem dX6_began_10 : decode cX6_began 10 = .ok (.invokestatic 97, 3) := by decide +kernel
theorem dX6_began_13 : decode cX6_began 13 = .ok (.ifCond .eq 11, 3) := by decide +kernel
theorem dX6_began_16 : decode cX6_began 16 = .ok (.iload_n 3, 1) := by decide +kernel
theorem dX6_began_17 : decode cX6_began 17 = .ok (.iconst 1, 1) := by decide +kernel
theorem dX6_began_18 : decode cX6_began 18 = .ok (.invokestatic 97, 3) := by decide +kernel
theorem dX6_began_21 : decode cX6_began 21 = .ok (.ifCond .ne 9, 3) := by decide +kernel
theorem dX6_began_24 : decode cX6_began 24 = .ok (.aload_n 0, 1) := by decide +kernel
theorem dX6_began_25 : decode cX6_began 25 = .ok (.iconst 1, 1) := by decide +kernel
theorem dX6_began_26 : decode cX6_began 26 = .ok (.invokevirtual 64, 3) := by decide +kernel
theorem dX6_began_29 : decode cX6_began 29 = .ok (.ireturn, 1) := by decide +kernel
theorem dX6_began_30 : decode cX6_began 30 = .ok (.aload_n 0, 1) := by decide +kernel
theorem dX6_began_31 : decode cX6_began 31 = .ok (.getfield 46, 3) := by decide +kernel
theorem dX6_began_34 : decode cX6_began 34 = .ok (.iload_n 1, 1) := by decide +kernel
theorem dX6_began_35 : decode cX6_began 35 = .ok (.aaload, 1) := by decide +kernel
theorem dX6_began_36 : decode cX6_began 36 = .ok (.invokevirtual 190, 3) := by decide +kernel
theorem dX6_began_39 : decode cX6_began 39 = .ok (.ifCond .eq 9, 3) := by decide +kernel
theorem dX6_began_42 : decode cX6_began 42 = .ok (.aload_n 0, 1) := by decide +kernel
theorem dX6_began_43 : decode cX6_began 43 = .ok (.iconst 2, 1) := by decide +kernel
theorem dX6_began_44 : decode cX6_began 44 = .ok (.invokevirtual 64, 3) := by decide +kernel
theorem dX6_began_47 : decode cX6_began 47 = .ok (.ireturn, 1) := by decide +kernel
theorem dX6_began_48 : decode cX6_began 48 = .ok (.aload_n 0, 1) := by decide +kernel
theorem dX6_began_49 : decode cX6_began 49 = .ok (.iload_n 2, 1) := by decide +kernel
theorem dX6_began_50 : decode cX6_began 50 = .ok (.invokevirtual 159, 3) := by decide +kernel
theorem dX6_began_53 : decode cX6_began 53 = .ok (.iconst 0, 1) := by decide +kernel
theorem dX6_began_54 : decode cX6_began 54 = .ok (.istore 4, 2) := by decide +kernel
theorem dX6_began_56 : decode cX6_began 56 = .ok (.iconst 0, 1) := by decide +kernel
theorem dX6_began_57 : decode cX6_began 57 = .ok (.istore 5, 2) := by decide +kernel
theorem dX6_began_59 : decode cX6_began 59 = .ok (.iconst 1, 1) := by decide +kernel
theorem dX6_began_60 : decode cX6_began 60 = .ok (.istore 6, 2) := by decide +kernel
theorem dX6_began_62 : decode cX6_began 62 = .ok (.iload 6, 2) := by decide +kernel
theorem dX6_began_64 : decode cX6_began 64 = .ok (.bipush 9, 2) := by decide +kernel
theorem dX6_began_66 : decode cX6_began 66 = .ok (.if_icmp .gt 86, 3) := by decide +kernel
theorem dX6_began_69 : decode cX6_began 69 = .ok (.aload_n 0, 1) := by decide +kernel
theorem dX6_began_70 : decode cX6_began 70 = .ok (.iload 6, 2) := by decide +kernel
theorem dX6_began_72 : decode cX6_began 72 = .ok (.iload_n 2, 1) := by decide +kernel
theorem dX6_began_73 : decode cX6_began 73 = .ok (.invokevirtual 166, 3) := by decide +kernel
theorem dX6_began_76 : decode cX6_began 76 = .ok (.iconst 0, 1) := by decide +kernel
theorem dX6_began_77 : decode cX6_began 77 = .ok (.istore 7, 2) := by decide +kernel
theorem dX6_began_79 : decode cX6_began 79 = .ok (.iload 7, 2) := by decide +kernel
theorem dX6_began_81 : decode cX6_began 81 = .ok (.aload_n 0, 1) := by decide +kernel
theorem dX6_began_82 : decode cX6_began 82 = .ok (.getfield 10, 3) := by decide +kernel
theorem dX6_began_85 : decode cX6_began 85 = .ok (.getfield 68, 3) := by decide +kernel
theorem dX6_began_88 : decode cX6_began 88 = .ok (.if_icmp .ge 58, 3) := by decide +kernel
theorem dX6_began_91 : decode cX6_began 91 = .ok (.aload_n 0, 1) := by decide +kernel
theorem dX6_began_92 : decode cX6_began 92 = .ok (.aload_n 0, 1) := by decide +kernel
theorem dX6_began_93 : decode cX6_began 93 = .ok (.getfield 46, 3) := by decide +kernel
theorem dX6_began_96 : decode cX6_began 96 = .ok (.iload_n 1, 1) := by decide +kernel
theorem dX6_began_97 : decode cX6_began 97 = .ok (.aaload, 1) := by decide +kernel
theorem dX6_began_98 : decode cX6_began 98 = .ok (.iconst 1, 1) := by decide +kernel
theorem dX6_began_99 : decode cX6_began 99 = .ok (.iload 7, 2) := by decide +kernel
theorem dX6_began_101 : decode cX6_began 101 = .ok (.ishl, 1) := by decide +kernel
theorem dX6_began_102 : decode cX6_began 102 = .ok (.invokevirtual 194, 3) := by decide +kernel
theorem dX6_began_105 : decode cX6_began 105 = .ok (.ifCond .eq 35, 3) := by decide +kernel
theorem dX6_began_108 : decode cX6_began 108 = .ok (.bipush 10, 2) := by decide +kernel
theorem dX6_began_110 : decode cX6_began 110 = .ok (.iload 7, 2) := by decide +kernel
theorem dX6_began_112 : decode cX6_began 112 = .ok (.imul, 1) := by decide +kernel
theorem dX6_began_113 : decode cX6_began 113 = .ok (.iload 6, 2) := by decide +kernel
theorem dX6_began_115 : decode cX6_began 115 = .ok (.iadd, 1) := by decide +kernel
theorem dX6_began_116 : decode cX6_began 116 = .ok (.istore 8, 2) := by decide +kernel
theorem dX6_began_118 : decode cX6_began 118 = .ok (.iload 4, 2) := by decide +kernel
theorem dX6_began_120 : decode cX6_began 120 = .ok (.ifCond .ne 8, 3) := by decide +kernel
theorem dX6_began_123 : decode cX6_began 123 = .ok (.iload 8, 2) := by decide +kernel
theorem dX6_began_125 : decode cX6_began 125 = .ok (.goto 10, 3) := by decide +kernel
theorem dX6_began_128 : decode cX6_began 128 = .ok (.iload 5, 2) := by decide +kernel
theorem dX6_began_130 : decode cX6_began 130 = .ok (.iload 8, 2) := by decide +kernel
theorem dX6_began_132 : decode cX6_began 132 = .ok (.invokestatic 198, 3) := by decide +kernel
theorem dX6_began_135 : decode cX6_began 135 = .ok (.istore 5, 2) := by decide +kernel
theorem dX6_began_137 : decode cX6_began 137 = .ok (.iinc 4 1, 3) := by decide +kernel
theorem dX6_began_140 : decode cX6_began 140 = .ok (.iinc 7 1, 3) := by decide +kernel
theorem dX6_began_143 : decode cX6_began 143 = .ok (.goto (-64), 3) := by decide +kernel
theorem dX6_began_146 : decode cX6_began 146 = .ok (.iinc 6 1, 3) := by decide +kernel
theorem dX6_began_149 : decode cX6_began 149 = .ok (.goto (-87), 3) := by decide +kernel
theorem dX6_began_152 : decode cX6_began 152 = .ok (.iload_n 3, 1) := by decide +kernel
theorem dX6_began_153 : decode cX6_began 153 = .ok (.ifCond .ne 6, 3) := by decide +kernel
theorem dX6_began_156 : decode cX6_began 156 = .ok (.iload 4, 2) := by decide +kernel
theorem dX6_began_158 : decode cX6_began 158 = .ok (.ireturn, 1) := by decide +kernel
theorem dX6_began_159 : decode cX6_began 159 = .ok (.iload 4, 2) := by decide +kernel
theorem dX6_began_161 : decode cX6_began 161 = .ok (.ifCond .ne 11, 3) := by decide +kernel
theorem dX6_began_164 : decode cX6_began 164 = .ok (.aload_n 0, 1) := by decide +kernel
theorem dX6_began_165 : decode cX6_began 165 = .ok (.iconst 2, 1) := by decide +kernel
theorem dX6_began_166 : decode cX6_began 166 = .ok (.invokevirtual 64, 3) := by decide +kernel
theorem dX6_began_169 : decode cX6_began 169 = .ok (.goto 5, 3) := by decide +kernel
theorem dX6_began_172 : decode cX6_began 172 = .ok (.iload 5, 2) := by decide +kernel
theorem dX6_began_174 : decode cX6_began 174 = .ok (.ireturn, 1) := by decide +kernel
theorem dX6_fits_0 : decode cX6_fits 0 = .ok (.iload_n 1, 1) := by decide +kernel
theorem dX6_fits_1 : decode cX6_fits 1 = .ok (.invokestatic 187, 3) := by decide +kernel
theorem dX6_fits_4 : decode cX6_fits 4 = .ok (.ifCond .ne 9, 3) := by decide +kernel
theorem dX6_fits_7 : decode cX6_fits 7 = .ok (.aload_n 0, 1) := by decide +kernel
theorem dX6_fits_8 : decode cX6_fits 8 = .ok (.iconst 1, 1) := by decide +kernel
theorem dX6_fits_9 : decode cX6_fits 9 = .ok (.invokevirtual 64, 3) := by decide +kernel
theorem dX6_fits_12 : decode cX6_fits 12 = .ok (.ireturn, 1) := by decide +kernel
theorem dX6_fits_13 : decode cX6_fits 13 = .ok (.aload_n 0, 1) := by decide +kernel
theorem dX6_fits_14 : decode cX6_fits 14 = .ok (.getfield 46, 3) := by decide +kernel
theorem dX6_fits_17 : decode cX6_fits 17 = .ok (.iload_n 1, 1) := by decide +kernel
theorem dX6_fits_18 : decode cX6_fits 18 = .ok (.aaload, 1) := by decide +kernel
theorem dX6_fits_19 : decode cX6_fits 19 = .ok (.invokevirtual 190, 3) := by decide +kernel
theorem dX6_fits_22 : decode cX6_fits 22 = .ok (.ifCond .eq 9, 3) := by decide +kernel
theorem dX6_fits_25 : decode cX6_fits 25 = .ok (.aload_n 0, 1) := by decide +kernel
theorem dX6_fits_26 : decode cX6_fits 26 = .ok (.iconst 2, 1) := by decide +kernel
theorem dX6_fits_27 : decode cX6_fits 27 = .ok (.invokevirtual 64, 3) := by decide +kernel
theorem dX6_fits_30 : decode cX6_fits 30 = .ok (.ireturn, 1) := by decide +kernel
theorem dX6_fits_31 : decode cX6_fits 31 = .ok (.aload_n 0, 1) := by decide +kernel
theorem dX6_fits_32 : decode cX6_fits 32 = .ok (.iconst 0, 1) := by decide +kernel
theorem dX6_fits_33 : decode cX6_fits 33 = .ok (.invokevirtual 159, 3) := by decide +kernel
theorem dX6_fits_36 : decode cX6_fits 36 = .ok (.iconst 0, 1) := by decide +kernel
theorem dX6_fits_37 : decode cX6_fits 37 = .ok (.istore_n 2, 1) := by decide +kernel
theorem dX6_fits_38 : decode cX6_fits 38 = .ok (.iload_n 2, 1) := by decide +kernel
theorem dX6_fits_39 : decode cX6_fits 39 = .ok (.bipush 100, 2) := by decide +kernel
theorem dX6_fits_41 : decode cX6_fits 41 = .ok (.if_icmp .gt 37, 3) := by decide +kernel
theorem dX6_fits_44 : decode cX6_fits 44 = .ok (.aload_n 0, 1) := by decide +kernel
theorem dX6_fits_45 : decode cX6_fits 45 = .ok (.aload_n 0, 1) := by decide +kernel
theorem dX6_fits_46 : decode cX6_fits 46 = .ok (.getfield 46, 3) := by decide +kernel
theorem dX6_fits_49 : decode cX6_fits 49 = .ok (.iload_n 1, 1) := by decide +kernel
theorem dX6_fits_50 : decode cX6_fits 50 = .ok (.aaload, 1) := by decide +kernel
theorem dX6_fits_51 : decode cX6_fits 51 = .ok (.iconst 0, 1) := by decide +kernel
theorem dX6_fits_52 : decode cX6_fits 52 = .ok (.invokevirtual 194, 3) := by decide +kernel
theorem dX6_fits_55 : decode cX6_fits 55 = .ok (.ifCond .eq 5, 3) := by decide +kernel
theorem dX6_fits_58 : decode cX6_fits 58 = .ok (.iload_n 2, 1) := by decide +kernel
theorem dX6_fits_59 : decode cX6_fits 59 = .ok (.ireturn, 1) := by decide +kernel
theorem dX6_fits_60 : decode cX6_fits 60 = .ok (.aload_n 0, 1) := by decide +kernel
theorem dX6_fits_61 : decode cX6_fits 61 = .ok (.getfield 10, 3) := by decide +kernel
theorem dX6_fits_64 : decode cX6_fits 64 = .ok (.aload_n 0, 1) := by decide +kernel
theorem dX6_fits_65 : decode cX6_fits 65 = .ok (.getfield 22, 3) := by decide +kernel
theorem dX6_fits_68 : decode cX6_fits 68 = .ok (.invokevirtual 145, 3) := by decide +kernel
theorem dX6_fits_71 : decode cX6_fits 71 = .ok (.pop, 1) := by decide +kernel
theorem dX6_fits_72 : decode cX6_fits 72 = .ok (.iinc 2 1, 3) := by decide +kernel
theorem dX6_fits_75 : decode cX6_fits 75 = .ok (.goto (-37), 3) := by decide +kernel
theorem dX6_fits_78 : decode cX6_fits 78 = .ok (.aload_n 0, 1) := by decide +kernel
theorem dX6_fits_79 : decode cX6_fits 79 = .ok (.iconst 2, 1) := by decide +kernel
theorem dX6_fits_80 : decode cX6_fits 80 = .ok (.invokevirtual 64, 3) := by decide +kernel
theorem dX6_fits_83 : decode cX6_fits 83 = .ok (.ireturn, 1) := by decide +kernel
theorem dX6_voice_0 : decode cX6_voice 0 = .ok (.aload_n 0, 1) := by decide +kernel
theorem dX6_voice_1 : decode cX6_voice 1 = .ok (.getfield 10, 3) := by decide +kernel
theorem dX6_voice_4 : decode cX6_voice 4 = .ok (.iload_n 1, 1) := by decide +kernel
theorem dX6_voice_5 : decode cX6_voice 5 = .ok (.invokevirtual 76, 3) := by decide +kernel
theorem dX6_voice_8 : decode cX6_voice 8 = .ok (.ifCond .eq 11, 3) := by decide +kernel
theorem dX6_voice_11 : decode cX6_voice 11 = .ok (.iload_n 2, 1) := by decide +kernel
theorem dX6_voice_12 : decode cX6_voice 12 = .ok (.iconst 3, 1) := by decide +kernel
theorem dX6_voice_13 : decode cX6_voice 13 = .ok (.invokestatic 97, 3) := by decide +kernel
theorem dX6_voice_16 : decode cX6_voice 16 = .ok (.ifCond .ne 9, 3) := by decide +kernel
theorem dX6_voice_19 : decode cX6_voice 19 = .ok (.aload_n 0, 1) := by decide +kernel
theorem dX6_voice_20 : decode cX6_voice 20 = .ok (.iconst 1, 1) := by decide +kernel
theorem dX6_voice_21 : decode cX6_voice 21 = .ok (.invokevirtual 64, 3) := by decide +kernel
theorem dX6_voice_24 : decode cX6_voice 24 = .ok (.ireturn, 1) := by decide +kernel
theorem dX6_voice_25 : decode cX6_voice 25 = .ok (.aload_n 0, 1) := by decide +kernel
theorem dX6_voice_26 : decode cX6_voice 26 = .ok (.getfield 39, 3) := by decide +kernel
theorem dX6_voice_29 : decode cX6_voice 29 = .ok (.iload_n 1, 1) := by decide +kernel
theorem dX6_voice_30 : decode cX6_voice 30 = .ok (.aload_n 0, 1) := by decide +kernel
theorem dX6_voice_31 : decode cX6_voice 31 = .ok (.getfield 10, 3) := by decide +kernel
theorem dX6_voice_34 : decode cX6_voice 34 = .ok (.getfield 79, 3) := by decide +kernel
theorem dX6_voice_37 : decode cX6_voice 37 = .ok (.iload_n 1, 1) := by decide +kernel
theorem dX6_voice_38 : decode cX6_voice 38 = .ok (.iaload, 1) := by decide +kernel
theorem dX6_voice_39 : decode cX6_voice 39 = .ok (.aload_n 0, 1) := by decide +kernel
theorem dX6_voice_40 : decode cX6_voice 40 = .ok (.getfield 10, 3) := by decide +kernel
theorem dX6_voice_43 : decode cX6_voice 43 = .ok (.getfield 82, 3) := by decide +kernel
theorem dX6_voice_46 : decode cX6_voice 46 = .ok (.iload_n 1, 1) := by decide +kernel
theorem dX6_voice_47 : decode cX6_voice 47 = .ok (.iaload, 1) := by decide +kernel
theorem dX6_voice_48 : decode cX6_voice 48 = .ok (.iload_n 2, 1) := by decide +kernel
theorem dX6_voice_49 : decode cX6_voice 49 = .ok (.iload_n 3, 1) := by decide +kernel
theorem dX6_voice_50 : decode cX6_voice 50 = .ok (.invokevirtual 203, 3) := by decide +kernel
theorem dX6_voice_53 : decode cX6_voice 53 = .ok (.istore 4, 2) := by decide +kernel
theorem dX6_voice_55 : decode cX6_voice 55 = .ok (.aload_n 0, 1) := by decide +kernel
theorem dX6_voice_56 : decode cX6_voice 56 = .ok (.getfield 39, 3) := by decide +kernel
theorem dX6_voice_59 : decode cX6_voice 59 = .ok (.getfield 207, 3) := by decide +kernel
theorem dX6_voice_62 : decode cX6_voice 62 = .ok (.ifCond .eq 12, 3) := by decide +kernel
theorem dX6_voice_65 : decode cX6_voice 65 = .ok (.aload_n 0, 1) := by decide +kernel
theorem dX6_voice_66 : decode cX6_voice 66 = .ok (.bipush 6, 2) := by decide +kernel
theorem dX6_voice_68 : decode cX6_voice 68 = .ok (.invokevirtual 64, 3) := by decide +kernel
theorem dX6_voice_71 : decode cX6_voice 71 = .ok (.goto 5, 3) := by decide +kernel
theorem dX6_voice_74 : decode cX6_voice 74 = .ok (.iload 4, 2) := by decide +kernel
theorem dX6_voice_76 : decode cX6_voice 76 = .ok (.ireturn, 1) := by decide +kernel
theorem dX6_body_0 : decode cX6_body 0 = .ok (.iload_n 1, 1) := by decide +kernel
theorem dX6_body_1 : decode cX6_body 1 = .ok (.ifCond .lt 26, 3) := by decide +kernel
theorem dX6_body_4 : decode cX6_body 4 = .ok (.iload_n 1, 1) := by decide +kernel
theorem dX6_body_5 : decode cX6_body 5 = .ok (.aload_n 0, 1) := by decide +kernel
theorem dX6_body_6 : decode cX6_body 6 = .ok (.getfield 39, 3) := by decide +kernel
theorem dX6_body_9 : decode cX6_body 9 = .ok (.getfield 211, 3) := by decide +kernel
theorem dX6_body_12 : decode cX6_body 12 = .ok (.if_icmp .ge 15, 3) := by decide +kernel
theorem dX6_body_15 : decode cX6_body 15 = .ok (.aload_n 0, 1) := by decide +kernel
theorem dX6_body_16 : decode cX6_body 16 = .ok (.getfield 39, 3) := by decide +kernel
theorem dX6_body_19 : decode cX6_body 19 = .ok (.getfield 214, 3) := by decide +kernel
theorem dX6_body_22 : decode cX6_body 22 = .ok (.iload_n 1, 1) := by decide +kernel
theorem dX6_body_23 : decode cX6_body 23 = .ok (.iaload, 1) := by decide +kernel
theorem dX6_body_24 : decode cX6_body 24 = .ok (.goto 8, 3) := by decide +kernel
theorem dX6_body_27 : decode cX6_body 27 = .ok (.aload_n 0, 1) := by decide +kernel
theorem dX6_body_28 : decode cX6_body 28 = .ok (.iconst 2, 1) := by decide +kernel
theorem dX6_body_29 : decode cX6_body 29 = .ok (.invokevirtual 64, 3) := by decide +kernel
theorem dX6_body_32 : decode cX6_body 32 = .ok (.ireturn, 1) := by decide +kernel
theorem dX6_sheet_0 : decode cX6_sheet 0 = .ok (.iload_n 1, 1) := by decide +kernel
theorem dX6_sheet_1 : decode cX6_sheet 1 = .ok (.invokestatic 187, 3) := by decide +kernel
theorem dX6_sheet_4 : decode cX6_sheet 4 = .ok (.ifCond .eq 25, 3) := by decide +kernel
theorem dX6_sheet_7 : decode cX6_sheet 7 = .ok (.iload_n 2, 1) := by decide +kernel
theorem dX6_sheet_8 : decode cX6_sheet 8 = .ok (.ifCond .eq 27, 3) := by decide +kernel
theorem dX6_sheet_11 : decode cX6_sheet 11 = .ok (.iload_n 2, 1) := by decide +kernel
theorem dX6_sheet_12 : decode cX6_sheet 12 = .ok (.bipush 8, 2) := by decide +kernel
theorem dX6_sheet_14 : decode cX6_sheet 14 = .ok (.if_icmp .eq 21, 3) := by decide +kernel
theorem dX6_sheet_17 : decode cX6_sheet 17 = .ok (.iload_n 2, 1) := by decide +kernel
theorem dX6_sheet_18 : decode cX6_sheet 18 = .ok (.bipush 16, 2) := by decide +kernel
theorem dX6_sheet_20 : decode cX6_sheet 20 = .ok (.if_icmp .eq 15, 3) := by decide +kernel
theorem dX6_sheet_23 : decode cX6_sheet 23 = .ok (.iload_n 2, 1) := by decide +kernel
theorem dX6_sheet_24 : decode cX6_sheet 24 = .ok (.bipush 32, 2) := by decide +kernel
theorem dX6_sheet_26 : decode cX6_sheet 26 = .ok (.if_icmp .eq 9, 3) := by decide +kernel
theorem dX6_sheet_29 : decode cX6_sheet 29 = .ok (.aload_n 0, 1) := by decide +kernel
theorem dX6_sheet_30 : decode cX6_sheet 30 = .ok (.iconst 1, 1) := by decide +kernel
theorem dX6_sheet_31 : decode cX6_sheet 31 = .ok (.invokevirtual 64, 3) := by decide +kernel
theorem dX6_sheet_34 : decode cX6_sheet 34 = .ok (.ireturn, 1) := by decide +kernel
theorem dX6_sheet_35 : decode cX6_sheet 35 = .ok (.iload_n 2, 1) := by decide +kernel
theorem dX6_sheet_36 : decode cX6_sheet 36 = .ok (.ifCond .eq 13, 3) := by decide +kernel
theorem dX6_sheet_39 : decode cX6_sheet 39 = .ok (.iload_n 3, 1) := by decide +kernel
theorem dX6_sheet_40 : decode cX6_sheet 40 = .ok (.ifCond .ge 9, 3) := by decide +kernel
theorem dX6_sheet_43 : decode cX6_sheet 43 = .ok (.aload_n 0, 1) := by decide +kernel
theorem dX6_sheet_44 : decode cX6_sheet 44 = .ok (.iconst 3, 1) := by decide +kernel
theorem dX6_sheet_45 : decode cX6_sheet 45 = .ok (.invokevirtual 64, 3) := by decide +kernel
theorem dX6_sheet_48 : decode cX6_sheet 48 = .ok (.ireturn, 1) := by decide +kernel
theorem dX6_sheet_49 : decode cX6_sheet 49 = .ok (.iload_n 2, 1) := by decide +kernel
theorem dX6_sheet_50 : decode cX6_sheet 50 = .ok (.ifCond .eq 15, 3) := by decide +kernel
theorem dX6_sheet_53 : decode cX6_sheet 53 = .ok (.iload_n 3, 1) := by decide +kernel
theorem dX6_sheet_54 : decode cX6_sheet 54 = .ok (.bipush 24, 2) := by decide +kernel
theorem dX6_sheet_56 : decode cX6_sheet 56 = .ok (.if_icmp .le 9, 3) := by decide +kernel
theorem dX6_sheet_59 : decode cX6_sheet 59 = .ok (.aload_n 0, 1) := by decide +kernel
theorem dX6_sheet_60 : decode cX6_sheet 60 = .ok (.iconst 1, 1) := by decide +kernel
theorem dX6_sheet_61 : decode cX6_sheet 61 = .ok (.invokevirtual 64, 3) := by decide +kernel
theorem dX6_sheet_64 : decode cX6_sheet 64 = .ok (.ireturn, 1) := by decide +kernel
theorem dX6_sheet_65 : decode cX6_sheet 65 = .ok (.aload_n 0, 1) := by decide +kernel
theorem dX6_sheet_66 : decode cX6_sheet 66 = .ok (.getfield 46, 3) := by decide +kernel
theorem dX6_sheet_69 : decode cX6_sheet 69 = .ok (.iload_n 1, 1) := by decide +kernel
theorem dX6_sheet_70 : decode cX6_sheet 70 = .ok (.aaload, 1) := by decide +kernel
theorem dX6_sheet_71 : decode cX6_sheet 71 = .ok (.iload_n 2, 1) := by decide +kernel
theorem dX6_sheet_72 : decode cX6_sheet 72 = .ok (.iload_n 3, 1) := by decide +kernel
theorem dX6_sheet_73 : decode cX6_sheet 73 = .ok (.invokevirtual 217, 3) := by decide +kernel
theorem dX6_sheet_76 : decode cX6_sheet 76 = .ok (.iconst 1, 1) := by decide +kernel
theorem dX6_sheet_77 : decode cX6_sheet 77 = .ok (.ireturn, 1) := by decide +kernel
theorem dX6_put_0 : decode cX6_put 0 = .ok (.iload_n 1, 1) := by decide +kernel
theorem dX6_put_1 : decode cX6_put 1 = .ok (.invokestatic 187, 3) := by decide +kernel
theorem dX6_put_4 : decode cX6_put 4 = .ok (.ifCond .ne 9, 3) := by decide +kernel
theorem dX6_put_7 : decode cX6_put 7 = .ok (.aload_n 0, 1) := by decide +kernel
theorem dX6_put_8 : decode cX6_put 8 = .ok (.iconst 1, 1) := by decide +kernel
theorem dX6_put_9 : decode cX6_put 9 = .ok (.invokevirtual 64, 3) := by decide +kernel
theorem dX6_put_12 : decode cX6_put 12 = .ok (.ireturn, 1) := by decide +kernel
theorem dX6_put_13 : decode cX6_put 13 = .ok (.aload_n 0, 1) := by decide +kernel
theorem dX6_put_14 : decode cX6_put 14 = .ok (.getfield 46, 3) := by decide +kernel
theorem dX6_put_17 : decode cX6_put 17 = .ok (.iload_n 1, 1) := by decide +kernel
theorem dX6_put_18 : decode cX6_put 18 = .ok (.aaload, 1) := by decide +kernel
theorem dX6_put_19 : decode cX6_put 19 = .ok (.invokevirtual 190, 3) := by decide +kernel
theorem dX6_put_22 : decode cX6_put 22 = .ok (.ifCond .eq 9, 3) := by decide +kernel
theorem dX6_put_25 : decode cX6_put 25 = .ok (.aload_n 0, 1) := by decide +kernel
theorem dX6_put_26 : decode cX6_put 26 = .ok (.iconst 2, 1) := by decide +kernel
theorem dX6_put_27 : decode cX6_put 27 = .ok (.invokevirtual 64, 3) := by decide +kernel
theorem dX6_put_30 : decode cX6_put 30 = .ok (.ireturn, 1) := by decide +kernel
theorem dX6_put_31 : decode cX6_put 31 = .ok (.iload_n 2, 1) := by decide +kernel
theorem dX6_put_32 : decode cX6_put 32 = .ok (.ifCond .lt 16, 3) := by decide +kernel
theorem dX6_put_35 : decode cX6_put 35 = .ok (.iload_n 2, 1) := by decide +kernel
theorem dX6_put_36 : decode cX6_put 36 = .ok (.aload_n 0, 1) := by decide +kernel
theorem dX6_put_37 : decode cX6_put 37 = .ok (.getfield 46, 3) := by decide +kernel
theorem dX6_put_40 : decode cX6_put 40 = .ok (.iload_n 1, 1) := by decide +kernel
theorem dX6_put_41 : decode cX6_put 41 = .ok (.aaload, 1) := by decide +kernel
theorem dX6_put_42 : decode cX6_put 42 = .ok (.getfield 220, 3) := by decide +kernel
theorem dX6_put_45 : decode cX6_put 45 = .ok (.if_icmp .lt 9, 3) := by decide +kernel
theorem dX6_put_48 : decode cX6_put 48 = .ok (.aload_n 0, 1) := by decide +kernel
theorem dX6_put_49 : decode cX6_put 49 = .ok (.iconst 1, 1) := by decide +kernel
theorem dX6_put_50 : decode cX6_put 50 = .ok (.invokevirtual 64, 3) := by decide +kernel
theorem dX6_put_53 : decode cX6_put 53 = .ok (.ireturn, 1) := by decide +kernel
theorem dX6_put_54 : decode cX6_put 54 = .ok (.aload_n 0, 1) := by decide +kernel
theorem dX6_put_55 : decode cX6_put 55 = .ok (.getfield 46, 3) := by decide +kernel
theorem dX6_put_58 : decode cX6_put 58 = .ok (.iload_n 1, 1) := by decide +kernel
theorem dX6_put_59 : decode cX6_put 59 = .ok (.aaload, 1) := by decide +kernel
theorem dX6_put_60 : decode cX6_put 60 = .ok (.iload_n 2, 1) := by decide +kernel
theorem dX6_put_61 : decode cX6_put 61 = .ok (.iload_n 3, 1) := by decide +kernel
theorem dX6_put_62 : decode cX6_put 62 = .ok (.invokevirtual 221, 3) := by decide +kernel
theorem dX6_put_65 : decode cX6_put 65 = .ok (.iconst 1, 1) := by decide +kernel
theorem dX6_put_66 : decode cX6_put 66 = .ok (.ireturn, 1) := by decide +kernel
theorem dX6_move_0 : decode cX6_move 0 = .ok (.iload_n 1, 1) := by decide +kernel
theorem dX6_move_1 : decode cX6_move 1 = .ok (.invokestatic 187, 3) := by decide +kernel
theorem dX6_move_4 : decode cX6_move 4 = .ok (.ifCond .eq 10, 3) := by decide +kernel
theorem dX6_move_7 : decode cX6_move 7 = .ok (.iload_n 3, 1) := by decide +kernel
theorem dX6_move_8 : decode cX6_move 8 = .ok (.invokestatic 187, 3) := by decide +kernel
theorem dX6_move_11 : decode cX6_move 11 = .ok (.ifCond .ne 9, 3) := by decide +kernel
theorem dX6_move_14 : decode cX6_move 14 = .ok (.aload_n 0, 1) := by decide +kernel
theorem dX6_move_15 : decode cX6_move 15 = .ok (.iconst 1, 1) := by decide +kernel
theorem dX6_move_16 : decode cX6_move 16 = .ok (.invokevirtual 64, 3) := by decide +kernel
theorem dX6_move_19 : decode cX6_move 19 = .ok (.ireturn, 1) := by decide +kernel
theorem dX6_move_20 : decode cX6_move 20 = .ok (.aload_n 0, 1) := by decide +kernel
theorem dX6_move_21 : decode cX6_move 21 = .ok (.getfield 46, 3) := by decide +kernel
theorem dX6_move_24 : decode cX6_move 24 = .ok (.iload_n 1, 1) := by decide +kernel
theorem dX6_move_25 : decode cX6_move 25 = .ok (.aaload, 1) := by decide +kernel
theorem dX6_move_26 : decode cX6_move 26 = .ok (.astore 6, 2) := by decide +kernel
end
section
theorem dX6_move_28 : decode cX6_move 28 = .ok (.aload_n 0, 1) := by decide +kernel
theorem dX6_move_29 : decode cX6_move 29 = .ok (.getfield 46, 3) := by decide +kernel
theorem dX6_move_32 : decode cX6_move 32 = .ok (.iload_n 3, 1) := by decide +kernel
theorem dX6_move_33 : decode cX6_move 33 = .ok (.aaload, 1) := by decide +kernel
theorem dX6_move_34 : decode cX6_move 34 = .ok (.astore 7, 2) := by decide +kernel
theorem dX6_move_36 : decode cX6_move 36 = .ok (.aload 6, 2) := by decide +kernel
theorem dX6_move_38 : decode cX6_move 38 = .ok (.invokevirtual 190, 3) := by decide +kernel
theorem dX6_move_41 : decode cX6_move 41 = .ok (.ifCond .ne 11, 3) := by decide +kernel
theorem dX6_move_44 : decode cX6_move 44 = .ok (.aload 7, 2) := by decide +kernel
theorem dX6_move_46 : decode cX6_move 46 = .ok (.invokevirtual 190, 3) := by decide +kernel
theorem dX6_move_49 : decode cX6_move 49 = .ok (.ifCond .eq 9, 3) := by decide +kernel
theorem dX6_move_52 : decode cX6_move 52 = .ok (.aload_n 0, 1) := by decide +kernel
theorem dX6_move_53 : decode cX6_move 53 = .ok (.iconst 2, 1) := by decide +kernel
theorem dX6_move_54 : decode cX6_move 54 = .ok (.invokevirtual 64, 3) := by decide +kernel
theorem dX6_move_57 : decode cX6_move 57 = .ok (.ireturn, 1) := by decide +kernel
theorem dX6_move_58 : decode cX6_move 58 = .ok (.aload 6, 2) := by decide +kernel
theorem dX6_move_60 : decode cX6_move 60 = .ok (.getfield 224, 3) := by decide +kernel
theorem dX6_move_63 : decode cX6_move 63 = .ok (.aload 7, 2) := by decide +kernel
theorem dX6_move_65 : decode cX6_move 65 = .ok (.getfield 224, 3) := by decide +kernel
theorem dX6_move_68 : decode cX6_move 68 = .ok (.if_icmp .eq 9, 3) := by decide +kernel
theorem dX6_move_71 : decode cX6_move 71 = .ok (.aload_n 0, 1) := by decide +kernel
theorem dX6_move_72 : decode cX6_move 72 = .ok (.iconst 5, 1) := by decide +kernel
theorem dX6_move_73 : decode cX6_move 73 = .ok (.invokevirtual 64, 3) := by decide +kernel
theorem dX6_move_76 : decode cX6_move 76 = .ok (.ireturn, 1) := by decide +kernel
theorem dX6_move_77 : decode cX6_move 77 = .ok (.aload 6, 2) := by decide +kernel
theorem dX6_move_79 : decode cX6_move 79 = .ok (.iload_n 2, 1) := by decide +kernel
theorem dX6_move_80 : decode cX6_move 80 = .ok (.iload 5, 2) := by decide +kernel
theorem dX6_move_82 : decode cX6_move 82 = .ok (.invokevirtual 227, 3) := by decide +kernel
theorem dX6_move_85 : decode cX6_move 85 = .ok (.ifCond .eq 15, 3) := by decide +kernel
theorem dX6_move_88 : decode cX6_move 88 = .ok (.aload 7, 2) := by decide +kernel
theorem dX6_move_90 : decode cX6_move 90 = .ok (.iload 4, 2) := by decide +kernel
theorem dX6_move_92 : decode cX6_move 92 = .ok (.iload 5, 2) := by decide +kernel
theorem dX6_move_94 : decode cX6_move 94 = .ok (.invokevirtual 227, 3) := by decide +kernel
theorem dX6_move_97 : decode cX6_move 97 = .ok (.ifCond .ne 9, 3) := by decide +kernel
theorem dX6_move_100 : decode cX6_move 100 = .ok (.aload_n 0, 1) := by decide +kernel
theorem dX6_move_101 : decode cX6_move 101 = .ok (.iconst 1, 1) := by decide +kernel
theorem dX6_move_102 : decode cX6_move 102 = .ok (.invokevirtual 64, 3) := by decide +kernel
theorem dX6_move_105 : decode cX6_move 105 = .ok (.ireturn, 1) := by decide +kernel
theorem dX6_move_106 : decode cX6_move 106 = .ok (.aload 6, 2) := by decide +kernel
theorem dX6_move_108 : decode cX6_move 108 = .ok (.getfield 230, 3) := by decide +kernel
theorem dX6_move_111 : decode cX6_move 111 = .ok (.iload_n 2, 1) := by decide +kernel
theorem dX6_move_112 : decode cX6_move 112 = .ok (.aload 7, 2) := by decide +kernel
theorem dX6_move_114 : decode cX6_move 114 = .ok (.getfield 230, 3) := by decide +kernel
theorem dX6_move_117 : decode cX6_move 117 = .ok (.iload 4, 2) := by decide +kernel
theorem dX6_move_119 : decode cX6_move 119 = .ok (.iload 5, 2) := by decide +kernel
theorem dX6_move_121 : decode cX6_move 121 = .ok (.invokestatic 233, 3) := by decide +kernel
theorem dX6_move_124 : decode cX6_move 124 = .ok (.iload 5, 2) := by decide +kernel
theorem dX6_move_126 : decode cX6_move 126 = .ok (.ireturn, 1) := by decide +kernel
theorem dX6_nears_0 : decode cX6_nears 0 = .ok (.iload_n 1, 1) := by decide +kernel
theorem dX6_nears_1 : decode cX6_nears 1 = .ok (.invokestatic 187, 3) := by decide +kernel
theorem dX6_nears_4 : decode cX6_nears 4 = .ok (.ifCond .ne 9, 3) := by decide +kernel
theorem dX6_nears_7 : decode cX6_nears 7 = .ok (.aload_n 0, 1) := by decide +kernel
theorem dX6_nears_8 : decode cX6_nears 8 = .ok (.iconst 1, 1) := by decide +kernel
theorem dX6_nears_9 : decode cX6_nears 9 = .ok (.invokevirtual 64, 3) := by decide +kernel
theorem dX6_nears_12 : decode cX6_nears 12 = .ok (.ireturn, 1) := by decide +kernel
theorem dX6_nears_13 : decode cX6_nears 13 = .ok (.aload_n 0, 1) := by decide +kernel
theorem dX6_nears_14 : decode cX6_nears 14 = .ok (.getfield 46, 3) := by decide +kernel
theorem dX6_nears_17 : decode cX6_nears 17 = .ok (.iload_n 1, 1) := by decide +kernel
theorem dX6_nears_18 : decode cX6_nears 18 = .ok (.aaload, 1) := by decide +kernel
theorem dX6_nears_19 : decode cX6_nears 19 = .ok (.invokevirtual 190, 3) := by decide +kernel
theorem dX6_nears_22 : decode cX6_nears 22 = .ok (.ifCond .eq 9, 3) := by decide +kernel
theorem dX6_nears_25 : decode cX6_nears 25 = .ok (.aload_n 0, 1) := by decide +kernel
theorem dX6_nears_26 : decode cX6_nears 26 = .ok (.iconst 2, 1) := by decide +kernel
theorem dX6_nears_27 : decode cX6_nears 27 = .ok (.invokevirtual 64, 3) := by decide +kernel
theorem dX6_nears_30 : decode cX6_nears 30 = .ok (.ireturn, 1) := by decide +kernel
theorem dX6_nears_31 : decode cX6_nears 31 = .ok (.aload_n 0, 1) := by decide +kernel
theorem dX6_nears_32 : decode cX6_nears 32 = .ok (.getfield 46, 3) := by decide +kernel
theorem dX6_nears_35 : decode cX6_nears 35 = .ok (.iload_n 1, 1) := by decide +kernel
theorem dX6_nears_36 : decode cX6_nears 36 = .ok (.aaload, 1) := by decide +kernel
theorem dX6_nears_37 : decode cX6_nears 37 = .ok (.astore_n 2, 1) := by decide +kernel
theorem dX6_nears_38 : decode cX6_nears 38 = .ok (.iconst 0, 1) := by decide +kernel
theorem dX6_nears_39 : decode cX6_nears 39 = .ok (.istore_n 3, 1) := by decide +kernel
theorem dX6_nears_40 : decode cX6_nears 40 = .ok (.iload_n 3, 1) := by decide +kernel
theorem dX6_nears_41 : decode cX6_nears 41 = .ok (.aload_n 2, 1) := by decide +kernel
theorem dX6_nears_42 : decode cX6_nears 42 = .ok (.getfield 220, 3) := by decide +kernel
theorem dX6_nears_45 : decode cX6_nears 45 = .ok (.if_icmp .ge 50, 3) := by decide +kernel
theorem dX6_nears_48 : decode cX6_nears 48 = .ok (.iload_n 3, 1) := by decide +kernel
theorem dX6_nears_49 : decode cX6_nears 49 = .ok (.aload_n 0, 1) := by decide +kernel
theorem dX6_nears_50 : decode cX6_nears 50 = .ok (.getfield 10, 3) := by decide +kernel
theorem dX6_nears_53 : decode cX6_nears 53 = .ok (.getfield 68, 3) := by decide +kernel
theorem dX6_nears_56 : decode cX6_nears 56 = .ok (.if_icmp .ge 39, 3) := by decide +kernel
theorem dX6_nears_59 : decode cX6_nears 59 = .ok (.aload_n 2, 1) := by decide +kernel
theorem dX6_nears_60 : decode cX6_nears 60 = .ok (.getfield 230, 3) := by decide +kernel
theorem dX6_nears_63 : decode cX6_nears 63 = .ok (.iload_n 3, 1) := by decide +kernel
theorem dX6_nears_64 : decode cX6_nears 64 = .ok (.iaload, 1) := by decide +kernel
theorem dX6_nears_65 : decode cX6_nears 65 = .ok (.invokestatic 58, 3) := by decide +kernel
theorem dX6_nears_68 : decode cX6_nears 68 = .ok (.ifCond .eq 27, 3) := by decide +kernel
theorem dX6_nears_71 : decode cX6_nears 71 = .ok (.aload_n 0, 1) := by decide +kernel
theorem dX6_nears_72 : decode cX6_nears 72 = .ok (.getfield 10, 3) := by decide +kernel
theorem dX6_nears_75 : decode cX6_nears 75 = .ok (.getfield 85, 3) := by decide +kernel
theorem dX6_nears_78 : decode cX6_nears 78 = .ok (.getfield 88, 3) := by decide +kernel
theorem dX6_nears_81 : decode cX6_nears 81 = .ok (.iload_n 3, 1) := by decide +kernel
theorem dX6_nears_82 : decode cX6_nears 82 = .ok (.aload_n 2, 1) := by decide +kernel
theorem dX6_nears_83 : decode cX6_nears 83 = .ok (.getfield 230, 3) := by decide +kernel
theorem dX6_nears_86 : decode cX6_nears 86 = .ok (.iload_n 3, 1) := by decide +kernel
theorem dX6_nears_87 : decode cX6_nears 87 = .ok (.iaload, 1) := by decide +kernel
theorem dX6_nears_88 : decode cX6_nears 88 = .ok (.iastore, 1) := by decide +kernel
theorem dX6_nears_89 : decode cX6_nears 89 = .ok (.iinc 3 1, 3) := by decide +kernel
theorem dX6_nears_92 : decode cX6_nears 92 = .ok (.goto (-52), 3) := by decide +kernel
theorem dX6_nears_95 : decode cX6_nears 95 = .ok (.iload_n 3, 1) := by decide +kernel
theorem dX6_nears_96 : decode cX6_nears 96 = .ok (.ireturn, 1) := by decide +kernel
theorem dX6_judge_0 : decode cX6_judge 0 = .ok (.iload_n 1, 1) := by decide +kernel
theorem dX6_judge_1 : decode cX6_judge 1 = .ok (.invokestatic 187, 3) := by decide +kernel
theorem dX6_judge_4 : decode cX6_judge 4 = .ok (.ifCond .ne 9, 3) := by decide +kernel
theorem dX6_judge_7 : decode cX6_judge 7 = .ok (.aload_n 0, 1) := by decide +kernel
theorem dX6_judge_8 : decode cX6_judge 8 = .ok (.iconst 1, 1) := by decide +kernel
theorem dX6_judge_9 : decode cX6_judge 9 = .ok (.invokevirtual 64, 3) := by decide +kernel
theorem dX6_judge_12 : decode cX6_judge 12 = .ok (.ireturn, 1) := by decide +kernel
theorem dX6_judge_13 : decode cX6_judge 13 = .ok (.aload_n 0, 1) := by decide +kernel
theorem dX6_judge_14 : decode cX6_judge 14 = .ok (.getfield 46, 3) := by decide +kernel
theorem dX6_judge_17 : decode cX6_judge 17 = .ok (.iload_n 1, 1) := by decide +kernel
theorem dX6_judge_18 : decode cX6_judge 18 = .ok (.aaload, 1) := by decide +kernel
theorem dX6_judge_19 : decode cX6_judge 19 = .ok (.invokevirtual 190, 3) := by decide +kernel
theorem dX6_judge_22 : decode cX6_judge 22 = .ok (.ifCond .eq 9, 3) := by decide +kernel
theorem dX6_judge_25 : decode cX6_judge 25 = .ok (.aload_n 0, 1) := by decide +kernel
theorem dX6_judge_26 : decode cX6_judge 26 = .ok (.iconst 2, 1) := by decide +kernel
theorem dX6_judge_27 : decode cX6_judge 27 = .ok (.invokevirtual 64, 3) := by decide +kernel
theorem dX6_judge_30 : decode cX6_judge 30 = .ok (.ireturn, 1) := by decide +kernel
theorem dX6_judge_31 : decode cX6_judge 31 = .ok (.aload_n 0, 1) := by decide +kernel
theorem dX6_judge_32 : decode cX6_judge 32 = .ok (.getfield 46, 3) := by decide +kernel
theorem dX6_judge_35 : decode cX6_judge 35 = .ok (.iload_n 1, 1) := by decide +kernel
theorem dX6_judge_36 : decode cX6_judge 36 = .ok (.aaload, 1) := by decide +kernel
theorem dX6_judge_37 : decode cX6_judge 37 = .ok (.astore_n 2, 1) := by decide +kernel
theorem dX6_judge_38 : decode cX6_judge 38 = .ok (.iconst 0, 1) := by decide +kernel
theorem dX6_judge_39 : decode cX6_judge 39 = .ok (.istore_n 3, 1) := by decide +kernel
theorem dX6_judge_40 : decode cX6_judge 40 = .ok (.iload_n 3, 1) := by decide +kernel
theorem dX6_judge_41 : decode cX6_judge 41 = .ok (.aload_n 2, 1) := by decide +kernel
theorem dX6_judge_42 : decode cX6_judge 42 = .ok (.getfield 220, 3) := by decide +kernel
theorem dX6_judge_45 : decode cX6_judge 45 = .ok (.if_icmp .ge 44, 3) := by decide +kernel
theorem dX6_judge_48 : decode cX6_judge 48 = .ok (.iload_n 3, 1) := by decide +kernel
theorem dX6_judge_49 : decode cX6_judge 49 = .ok (.aload_n 0, 1) := by decide +kernel
theorem dX6_judge_50 : decode cX6_judge 50 = .ok (.getfield 10, 3) := by decide +kernel
theorem dX6_judge_53 : decode cX6_judge 53 = .ok (.getfield 68, 3) := by decide +kernel
theorem dX6_judge_56 : decode cX6_judge 56 = .ok (.if_icmp .ge 33, 3) := by decide +kernel
theorem dX6_judge_59 : decode cX6_judge 59 = .ok (.aload_n 2, 1) := by decide +kernel
theorem dX6_judge_60 : decode cX6_judge 60 = .ok (.getfield 230, 3) := by decide +kernel
theorem dX6_judge_63 : decode cX6_judge 63 = .ok (.iload_n 3, 1) := by decide +kernel
theorem dX6_judge_64 : decode cX6_judge 64 = .ok (.iaload, 1) := by decide +kernel
theorem dX6_judge_65 : decode cX6_judge 65 = .ok (.aload_n 0, 1) := by decide +kernel
theorem dX6_judge_66 : decode cX6_judge 66 = .ok (.getfield 10, 3) := by decide +kernel
theorem dX6_judge_69 : decode cX6_judge 69 = .ok (.iload_n 3, 1) := by decide +kernel
theorem dX6_judge_70 : decode cX6_judge 70 = .ok (.aload_n 0, 1) := by decide +kernel
theorem dX6_judge_71 : decode cX6_judge 71 = .ok (.getfield 10, 3) := by decide +kernel
theorem dX6_judge_74 : decode cX6_judge 74 = .ok (.getfield 85, 3) := by decide +kernel
theorem dX6_judge_77 : decode cX6_judge 77 = .ok (.invokevirtual 239, 3) := by decide +kernel
theorem dX6_judge_80 : decode cX6_judge 80 = .ok (.if_icmp .ne 9, 3) := by decide +kernel
theorem dX6_judge_83 : decode cX6_judge 83 = .ok (.iinc 3 1, 3) := by decide +kernel
theorem dX6_judge_86 : decode cX6_judge 86 = .ok (.goto (-46), 3) := by decide +kernel
theorem dX6_judge_89 : decode cX6_judge 89 = .ok (.iload_n 3, 1) := by decide +kernel
theorem dX6_judge_90 : decode cX6_judge 90 = .ok (.ireturn, 1) := by decide +kernel
theorem dX6_image_0 : decode cX6_image 0 = .ok (.aload_n 0, 1) := by decide +kernel
theorem dX6_image_1 : decode cX6_image 1 = .ok (.getfield 16, 3) := by decide +kernel
theorem dX6_image_4 : decode cX6_image 4 = .ok (.aload_n 0, 1) := by decide +kernel
theorem dX6_image_5 : decode cX6_image 5 = .ok (.getfield 10, 3) := by decide +kernel
theorem dX6_image_8 : decode cX6_image 8 = .ok (.invokevirtual 243, 3) := by decide +kernel
theorem dX6_image_11 : decode cX6_image 11 = .ok (.aload_n 0, 1) := by decide +kernel
theorem dX6_image_12 : decode cX6_image 12 = .ok (.dup, 1) := by decide +kernel
theorem dX6_image_13 : decode cX6_image 13 = .ok (.getfield 247, 3) := by decide +kernel
theorem dX6_image_16 : decode cX6_image 16 = .ok (.iconst 1, 1) := by decide +kernel
theorem dX6_image_17 : decode cX6_image 17 = .ok (.iadd, 1) := by decide +kernel
theorem dX6_image_18 : decode cX6_image 18 = .ok (.putfield 247, 3) := by decide +kernel
theorem dX6_image_21 : decode cX6_image 21 = .ok (.aload_n 0, 1) := by decide +kernel
theorem dX6_image_22 : decode cX6_image 22 = .ok (.getfield 247, 3) := by decide +kernel
theorem dX6_image_25 : decode cX6_image 25 = .ok (.ireturn, 1) := by decide +kernel
theorem dX6_restore_0 : decode cX6_restore 0 = .ok (.aload_n 0, 1) := by decide +kernel
theorem dX6_restore_1 : decode cX6_restore 1 = .ok (.getfield 247, 3) := by decide +kernel
theorem dX6_restore_4 : decode cX6_restore 4 = .ok (.ifCond .ne 9, 3) := by decide +kernel
theorem dX6_restore_7 : decode cX6_restore 7 = .ok (.aload_n 0, 1) := by decide +kernel
theorem dX6_restore_8 : decode cX6_restore 8 = .ok (.iconst 2, 1) := by decide +kernel
theorem dX6_restore_9 : decode cX6_restore 9 = .ok (.invokevirtual 64, 3) := by decide +kernel
theorem dX6_restore_12 : decode cX6_restore 12 = .ok (.ireturn, 1) := by decide +kernel
theorem dX6_restore_13 : decode cX6_restore 13 = .ok (.aload_n 0, 1) := by decide +kernel
theorem dX6_restore_14 : decode cX6_restore 14 = .ok (.getfield 10, 3) := by decide +kernel
theorem dX6_restore_17 : decode cX6_restore 17 = .ok (.aload_n 0, 1) := by decide +kernel
theorem dX6_restore_18 : decode cX6_restore 18 = .ok (.getfield 16, 3) := by decide +kernel
theorem dX6_restore_21 : decode cX6_restore 21 = .ok (.invokevirtual 243, 3) := by decide +kernel
theorem dX6_restore_24 : decode cX6_restore 24 = .ok (.aload_n 0, 1) := by decide +kernel
theorem dX6_restore_25 : decode cX6_restore 25 = .ok (.getfield 10, 3) := by decide +kernel
theorem dX6_restore_28 : decode cX6_restore 28 = .ok (.getfield 85, 3) := by decide +kernel
theorem dX6_restore_31 : decode cX6_restore 31 = .ok (.getfield 104, 3) := by decide +kernel
theorem dX6_restore_34 : decode cX6_restore 34 = .ok (.ireturn, 1) := by decide +kernel
theorem dX6_tell_0 : decode cX6_tell 0 = .ok (.aload_n 0, 1) := by decide +kernel
theorem dX6_tell_1 : decode cX6_tell 1 = .ok (.getfield 10, 3) := by decide +kernel
theorem dX6_tell_4 : decode cX6_tell 4 = .ok (.getfield 250, 3) := by decide +kernel
theorem dX6_tell_7 : decode cX6_tell 7 = .ok (.bipush 24, 2) := by decide +kernel
theorem dX6_tell_9 : decode cX6_tell 9 = .ok (.if_icmp .lt 9, 3) := by decide +kernel
theorem dX6_tell_12 : decode cX6_tell 12 = .ok (.aload_n 0, 1) := by decide +kernel
theorem dX6_tell_13 : decode cX6_tell 13 = .ok (.iconst 4, 1) := by decide +kernel
theorem dX6_tell_14 : decode cX6_tell 14 = .ok (.invokevirtual 64, 3) := by decide +kernel
theorem dX6_tell_17 : decode cX6_tell 17 = .ok (.ireturn, 1) := by decide +kernel
theorem dX6_tell_18 : decode cX6_tell 18 = .ok (.aload_n 0, 1) := by decide +kernel
theorem dX6_tell_19 : decode cX6_tell 19 = .ok (.getfield 10, 3) := by decide +kernel
theorem dX6_tell_22 : decode cX6_tell 22 = .ok (.getfield 253, 3) := by decide +kernel
theorem dX6_tell_25 : decode cX6_tell 25 = .ok (.aload_n 0, 1) := by decide +kernel
theorem dX6_tell_26 : decode cX6_tell 26 = .ok (.getfield 10, 3) := by decide +kernel
theorem dX6_tell_29 : decode cX6_tell 29 = .ok (.getfield 250, 3) := by decide +kernel
theorem dX6_tell_32 : decode cX6_tell 32 = .ok (.iload_n 1, 1) := by decide +kernel
theorem dX6_tell_33 : decode cX6_tell 33 = .ok (.iastore, 1) := by decide +kernel
theorem dX6_tell_34 : decode cX6_tell 34 = .ok (.aload_n 0, 1) := by decide +kernel
theorem dX6_tell_35 : decode cX6_tell 35 = .ok (.getfield 10, 3) := by decide +kernel
theorem dX6_tell_38 : decode cX6_tell 38 = .ok (.dup, 1) := by decide +kernel
theorem dX6_tell_39 : decode cX6_tell 39 = .ok (.getfield 250, 3) := by decide +kernel
theorem dX6_tell_42 : decode cX6_tell 42 = .ok (.iconst 1, 1) := by decide +kernel
theorem dX6_tell_43 : decode cX6_tell 43 = .ok (.iadd, 1) := by decide +kernel
theorem dX6_tell_44 : decode cX6_tell 44 = .ok (.putfield 250, 3) := by decide +kernel
theorem dX6_tell_47 : decode cX6_tell 47 = .ok (.aload_n 0, 1) := by decide +kernel
theorem dX6_tell_48 : decode cX6_tell 48 = .ok (.getfield 10, 3) := by decide +kernel
theorem dX6_tell_51 : decode cX6_tell 51 = .ok (.getfield 250, 3) := by decide +kernel
theorem dX6_tell_54 : decode cX6_tell 54 = .ok (.ireturn, 1) := by decide +kernel
theorem dX6_check_0 : decode cX6_check 0 = .ok (.aload_n 0, 1) := by decide +kernel
theorem dX6_check_1 : decode cX6_check 1 = .ok (.getfield 10, 3) := by decide +kernel
theorem dX6_check_4 : decode cX6_check 4 = .ok (.getfield 250, 3) := by decide +kernel
theorem dX6_check_7 : decode cX6_check 7 = .ok (.istore_n 1, 1) := by decide +kernel
theorem dX6_check_8 : decode cX6_check 8 = .ok (.aload_n 0, 1) := by decide +kernel
theorem dX6_check_9 : decode cX6_check 9 = .ok (.getfield 10, 3) := by decide +kernel
theorem dX6_check_12 : decode cX6_check 12 = .ok (.iconst 0, 1) := by decide +kernel
theorem dX6_check_13 : decode cX6_check 13 = .ok (.putfield 250, 3) := by decide +kernel
theorem dX6_check_16 : decode cX6_check 16 = .ok (.iconst 0, 1) := by decide +kernel
theorem dX6_check_17 : decode cX6_check 17 = .ok (.istore_n 2, 1) := by decide +kernel
theorem dX6_check_18 : decode cX6_check 18 = .ok (.iload_n 2, 1) := by decide +kernel
theorem dX6_check_19 : decode cX6_check 19 = .ok (.iload_n 1, 1) := by decide +kernel
theorem dX6_check_20 : decode cX6_check 20 = .ok (.if_icmp .ge 48, 3) := by decide +kernel
theorem dX6_check_23 : decode cX6_check 23 = .ok (.iload_n 2, 1) := by decide +kernel
theorem dX6_check_24 : decode cX6_check 24 = .ok (.aload_n 0, 1) := by decide +kernel
theorem dX6_check_25 : decode cX6_check 25 = .ok (.getfield 10, 3) := by decide +kernel
theorem dX6_check_28 : decode cX6_check 28 = .ok (.getfield 68, 3) := by decide +kernel
theorem dX6_check_31 : decode cX6_check 31 = .ok (.if_icmp .ge 27, 3) := by decide +kernel
theorem dX6_check_34 : decode cX6_check 34 = .ok (.aload_n 0, 1) := by decide +kernel
theorem dX6_check_35 : decode cX6_check 35 = .ok (.getfield 10, 3) := by decide +kernel
theorem dX6_check_38 : decode cX6_check 38 = .ok (.getfield 253, 3) := by decide +kernel
theorem dX6_check_41 : decode cX6_check 41 = .ok (.iload_n 2, 1) := by decide +kernel
theorem dX6_check_42 : decode cX6_check 42 = .ok (.iaload, 1) := by decide +kernel
theorem dX6_check_43 : decode cX6_check 43 = .ok (.aload_n 0, 1) := by decide +kernel
theorem dX6_check_44 : decode cX6_check 44 = .ok (.getfield 10, 3) := by decide +kernel
theorem dX6_check_47 : decode cX6_check 47 = .ok (.getfield 85, 3) := by decide +kernel
theorem dX6_check_50 : decode cX6_check 50 = .ok (.getfield 88, 3) := by decide +kernel
theorem dX6_check_53 : decode cX6_check 53 = .ok (.iload_n 2, 1) := by decide +kernel
theorem dX6_check_54 : decode cX6_check 54 = .ok (.iaload, 1) := by decide +kernel
theorem dX6_check_55 : decode cX6_check 55 = .ok (.if_icmp .eq 7, 3) := by decide +kernel
theorem dX6_check_58 : decode cX6_check 58 = .ok (.iconst 1, 1) := by decide +kernel
theorem dX6_check_59 : decode cX6_check 59 = .ok (.iload_n 2, 1) := by decide +kernel
theorem dX6_check_60 : decode cX6_check 60 = .ok (.iadd, 1) := by decide +kernel
theorem dX6_check_61 : decode cX6_check 61 = .ok (.ireturn, 1) := by decide +kernel
theorem dX6_check_62 : decode cX6_check 62 = .ok (.iinc 2 1, 3) := by decide +kernel
theorem dX6_check_65 : decode cX6_check 65 = .ok (.goto (-47), 3) := by decide +kernel
theorem dX6_check_68 : decode cX6_check 68 = .ok (.iconst 0, 1) := by decide +kernel
theorem dX6_check_69 : decode cX6_check 69 = .ok (.ireturn, 1) := by decide +kernel
theorem dX6_count_0 : decode cX6_count 0 = .ok (.iload_n 1, 1) := by decide +kernel
theorem dX6_count_1 : decode cX6_count 1 = .ok (.tableswitch 109 0 6 #[43, 51, 62, 77, 85, 93, 101], 43) := by decide +kernel
theorem dX6_count_44 : decode cX6_count 44 = .ok (.aload_n 0, 1) := by decide +kernel
theorem dX6_count_45 : decode cX6_count 45 = .ok (.getfield 10, 3) := by decide +kernel
theorem dX6_count_48 : decode cX6_count 48 = .ok (.getfield 68, 3) := by decide +kernel
theorem dX6_count_51 : decode cX6_count 51 = .ok (.ireturn, 1) := by decide +kernel
theorem dX6_count_52 : decode cX6_count 52 = .ok (.aload_n 0, 1) := by decide +kernel
theorem dX6_count_53 : decode cX6_count 53 = .ok (.getfield 10, 3) := by decide +kernel
theorem dX6_count_56 : decode cX6_count 56 = .ok (.getfield 85, 3) := by decide +kernel
theorem dX6_count_59 : decode cX6_count 59 = .ok (.getfield 104, 3) := by decide +kernel
theorem dX6_count_62 : decode cX6_count 62 = .ok (.ireturn, 1) := by decide +kernel
theorem dX6_count_63 : decode cX6_count 63 = .ok (.aload_n 0, 1) := by decide +kernel
theorem dX6_count_64 : decode cX6_count 64 = .ok (.getfield 10, 3) := by decide +kernel
theorem dX6_count_67 : decode cX6_count 67 = .ok (.aload_n 0, 1) := by decide +kernel
theorem dX6_count_68 : decode cX6_count 68 = .ok (.getfield 10, 3) := by decide +kernel
theorem dX6_count_71 : decode cX6_count 71 = .ok (.getfield 85, 3) := by decide +kernel
theorem dX6_count_74 : decode cX6_count 74 = .ok (.invokevirtual 152, 3) := by decide +kernel
theorem dX6_count_77 : decode cX6_count 77 = .ok (.ireturn, 1) := by decide +kernel
theorem dX6_count_78 : decode cX6_count 78 = .ok (.aload_n 0, 1) := by decide +kernel
theorem dX6_count_79 : decode cX6_count 79 = .ok (.getfield 10, 3) := by decide +kernel
theorem dX6_count_82 : decode cX6_count 82 = .ok (.getfield 115, 3) := by decide +kernel
theorem dX6_count_85 : decode cX6_count 85 = .ok (.ireturn, 1) := by decide +kernel
theorem dX6_count_86 : decode cX6_count 86 = .ok (.aload_n 0, 1) := by decide +kernel
theorem dX6_count_87 : decode cX6_count 87 = .ok (.getfield 10, 3) := by decide +kernel
theorem dX6_count_90 : decode cX6_count 90 = .ok (.getfield 250, 3) := by decide +kernel
theorem dX6_count_93 : decode cX6_count 93 = .ok (.ireturn, 1) := by decide +kernel
theorem dX6_count_94 : decode cX6_count 94 = .ok (.aload_n 0, 1) := by decide +kernel
theorem dX6_count_95 : decode cX6_count 95 = .ok (.getfield 39, 3) := by decide +kernel
theorem dX6_count_98 : decode cX6_count 98 = .ok (.getfield 211, 3) := by decide +kernel
theorem dX6_count_101 : decode cX6_count 101 = .ok (.ireturn, 1) := by decide +kernel
theorem dX6_count_102 : decode cX6_count 102 = .ok (.aload_n 0, 1) := by decide +kernel
theorem dX6_count_103 : decode cX6_count 103 = .ok (.getfield 10, 3) := by decide +kernel
theorem dX6_count_106 : decode cX6_count 106 = .ok (.getfield 156, 3) := by decide +kernel
theorem dX6_count_109 : decode cX6_count 109 = .ok (.ireturn, 1) := by decide +kernel
theorem dX6_count_110 : decode cX6_count 110 = .ok (.aload_n 0, 1) := by decide +kernel
theorem dX6_count_111 : decode cX6_count 111 = .ok (.iconst 1, 1) := by decide +kernel
theorem dX6_count_112 : decode cX6_count 112 = .ok (.invokevirtual 64, 3) := by decide +kernel
theorem dX6_count_115 : decode cX6_count 115 = .ok (.ireturn, 1) := by decide +kernel
theorem dX6_told_0 : decode cX6_told 0 = .ok (.iload_n 1, 1) := by decide +kernel
theorem dX6_told_1 : decode cX6_told 1 = .ok (.iconst 1, 1) := by decide +kernel
theorem dX6_told_2 : decode cX6_told 2 = .ok (.if_icmp .lt 18, 3) := by decide +kernel
theorem dX6_told_5 : decode cX6_told 5 = .ok (.iload_n 1, 1) := by decide +kernel
theorem dX6_told_6 : decode cX6_told 6 = .ok (.bipush 6, 2) := by decide +kernel
theorem dX6_told_8 : decode cX6_told 8 = .ok (.if_icmp .gt 12, 3) := by decide +kernel
theorem dX6_told_11 : decode cX6_told 11 = .ok (.aload_n 0, 1) := by decide +kernel
theorem dX6_told_12 : decode cX6_told 12 = .ok (.getfield 50, 3) := by decide +kernel
theorem dX6_told_15 : decode cX6_told 15 = .ok (.iload_n 1, 1) := by decide +kernel
theorem dX6_told_16 : decode cX6_told 16 = .ok (.iaload, 1) := by decide +kernel
theorem dX6_told_17 : decode cX6_told 17 = .ok (.goto 8, 3) := by decide +kernel
theorem dX6_told_20 : decode cX6_told 20 = .ok (.aload_n 0, 1) := by decide +kernel
theorem dX6_told_21 : decode cX6_told 21 = .ok (.iconst 1, 1) := by decide +kernel
theorem dX6_told_22 : decode cX6_told 22 = .ok (.invokevirtual 64, 3) := by decide +kernel
theorem dX6_told_25 : decode cX6_told 25 = .ok (.ireturn, 1) := by decide +kernel
theorem dX6_error_0 : decode cX6_error 0 = .ok (.iload_n 1, 1) := by decide +kernel
theorem dX6_error_1 : decode cX6_error 1 = .ok (.iconst 1, 1) := by decide +kernel
theorem dX6_error_2 : decode cX6_error 2 = .ok (.if_icmp .lt 19, 3) := by decide +kernel
theorem dX6_error_5 : decode cX6_error 5 = .ok (.iload_n 1, 1) := by decide +kernel
theorem dX6_error_6 : decode cX6_error 6 = .ok (.bipush 6, 2) := by decide +kernel
theorem dX6_error_8 : decode cX6_error 8 = .ok (.if_icmp .gt 13, 3) := by decide +kernel
theorem dX6_error_11 : decode cX6_error 11 = .ok (.aload_n 0, 1) := by decide +kernel
theorem dX6_error_12 : decode cX6_error 12 = .ok (.getfield 50, 3) := by decide +kernel
theorem dX6_error_15 : decode cX6_error 15 = .ok (.iload_n 1, 1) := by decide +kernel
theorem dX6_error_16 : decode cX6_error 16 = .ok (.dup2, 1) := by decide +kernel
theorem dX6_error_17 : decode cX6_error 17 = .ok (.iaload, 1) := by decide +kernel
theorem dX6_error_18 : decode cX6_error 18 = .ok (.iconst 1, 1) := by decide +kernel
theorem dX6_error_19 : decode cX6_error 19 = .ok (.iadd, 1) := by decide +kernel
theorem dX6_error_20 : decode cX6_error 20 = .ok (.iastore, 1) := by decide +kernel
theorem dX6_error_21 : decode cX6_error 21 = .ok (.ldc_w 256, 3) := by decide +kernel
theorem dX6_error_24 : decode cX6_error 24 = .ok (.iload_n 1, 1) := by decide +kernel
theorem dX6_error_25 : decode cX6_error 25 = .ok (.isub, 1) := by decide +kernel
theorem dX6_error_26 : decode cX6_error 26 = .ok (.ireturn, 1) := by decide +kernel
theorem dX6_isWithin_0 : decode cX6_isWithin 0 = .ok (.iload_n 0, 1) := by decide +kernel
theorem dX6_isWithin_1 : decode cX6_isWithin 1 = .ok (.ifCond .lt 12, 3) := by decide +kernel
theorem dX6_isWithin_4 : decode cX6_isWithin 4 = .ok (.iload_n 0, 1) := by decide +kernel
theorem dX6_isWithin_5 : decode cX6_isWithin 5 = .ok (.iload_n 1, 1) := by decide +kernel
theorem dX6_isWithin_6 : decode cX6_isWithin 6 = .ok (.if_icmp .gt 7, 3) := by decide +kernel
theorem dX6_isWithin_9 : decode cX6_isWithin 9 = .ok (.iconst 1, 1) := by decide +kernel
theorem dX6_isWithin_10 : decode cX6_isWithin 10 = .ok (.goto 4, 3) := by decide +kernel
theorem dX6_isWithin_13 : decode cX6_isWithin 13 = .ok (.iconst 0, 1) := by decide +kernel
theorem dX6_isWithin_14 : decode cX6_isWithin 14 = .ok (.ireturn, 1) := by decide +kernel
theorem dX6_isKind_0 : decode cX6_isKind 0 = .ok (.iload_n 0, 1) := by decide +kernel
theorem dX6_isKind_1 : decode cX6_isKind 1 = .ok (.bipush 69, 2) := by decide +kernel
theorem dX6_isKind_3 : decode cX6_isKind 3 = .ok (.invokestatic 97, 3) := by decide +kernel
theorem dX6_isKind_6 : decode cX6_isKind 6 = .ok (.ireturn, 1) := by decide +kernel
theorem dX6_isNear_0 : decode cX6_isNear 0 = .ok (.iload_n 0, 1) := by decide +kernel
theorem dX6_isNear_1 : decode cX6_isNear 1 = .ok (.bipush 99, 2) := by decide +kernel
theorem dX6_isNear_3 : decode cX6_isNear 3 = .ok (.invokestatic 97, 3) := by decide +kernel
theorem dX6_isNear_6 : decode cX6_isNear 6 = .ok (.ireturn, 1) := by decide +kernel
theorem dX6_isSign_0 : decode cX6_isSign 0 = .ok (.iload_n 0, 1) := by decide +kernel
theorem dX6_isSign_1 : decode cX6_isSign 1 = .ok (.bipush 9, 2) := by decide +kernel
theorem dX6_isSign_3 : decode cX6_isSign 3 = .ok (.invokestatic 97, 3) := by decide +kernel
theorem dX6_isSign_6 : decode cX6_isSign 6 = .ok (.ireturn, 1) := by decide +kernel
theorem dX6_isUse_0 : decode cX6_isUse 0 = .ok (.iload_n 0, 1) := by decide +kernel
theorem dX6_isUse_1 : decode cX6_isUse 1 = .ok (.ifCond .eq 8, 3) := by decide +kernel
theorem dX6_isUse_4 : decode cX6_isUse 4 = .ok (.iload_n 0, 1) := by decide +kernel
theorem dX6_isUse_5 : decode cX6_isUse 5 = .ok (.iconst 1, 1) := by decide +kernel
theorem dX6_isUse_6 : decode cX6_isUse 6 = .ok (.if_icmp .ne 7, 3) := by decide +kernel
theorem dX6_isUse_9 : decode cX6_isUse 9 = .ok (.iconst 1, 1) := by decide +kernel
theorem dX6_isUse_10 : decode cX6_isUse 10 = .ok (.goto 4, 3) := by decide +kernel
theorem dX6_isUse_13 : decode cX6_isUse 13 = .ok (.iconst 0, 1) := by decide +kernel
theorem dX6_isUse_14 : decode cX6_isUse 14 = .ok (.ireturn, 1) := by decide +kernel
theorem dX6_isSheet_0 : decode cX6_isSheet 0 = .ok (.iload_n 0, 1) := by decide +kernel
theorem dX6_isSheet_1 : decode cX6_isSheet 1 = .ok (.iconst 3, 1) := by decide +kernel
theorem dX6_isSheet_2 : decode cX6_isSheet 2 = .ok (.invokestatic 97, 3) := by decide +kernel
theorem dX6_isSheet_5 : decode cX6_isSheet 5 = .ok (.ireturn, 1) := by decide +kernel
theorem dX6_isUnder_0 : decode cX6_isUnder 0 = .ok (.iload_n 0, 1) := by decide +kernel
theorem dX6_isUnder_1 : decode cX6_isUnder 1 = .ok (.istore_n 2, 1) := by decide +kernel
theorem dX6_isUnder_2 : decode cX6_isUnder 2 = .ok (.iconst 0, 1) := by decide +kernel
theorem dX6_isUnder_3 : decode cX6_isUnder 3 = .ok (.istore_n 3, 1) := by decide +kernel
theorem dX6_isUnder_4 : decode cX6_isUnder 4 = .ok (.iload_n 3, 1) := by decide +kernel
theorem dX6_isUnder_5 : decode cX6_isUnder 5 = .ok (.bipush 7, 2) := by decide +kernel
theorem dX6_isUnder_7 : decode cX6_isUnder 7 = .ok (.if_icmp .ge 30, 3) := by decide +kernel
theorem dX6_isUnder_10 : decode cX6_isUnder 10 = .ok (.iload_n 2, 1) := by decide +kernel
theorem dX6_isUnder_11 : decode cX6_isUnder 11 = .ok (.ifCond .le 26, 3) := by decide +kernel
theorem dX6_isUnder_14 : decode cX6_isUnder 14 = .ok (.iload_n 2, 1) := by decide +kernel
theorem dX6_isUnder_15 : decode cX6_isUnder 15 = .ok (.bipush 7, 2) := by decide +kernel
theorem dX6_isUnder_17 : decode cX6_isUnder 17 = .ok (.if_icmp .ge 20, 3) := by decide +kernel
theorem dX6_isUnder_20 : decode cX6_isUnder 20 = .ok (.iload_n 2, 1) := by decide +kernel
theorem dX6_isUnder_21 : decode cX6_isUnder 21 = .ok (.iload_n 1, 1) := by decide +kernel
theorem dX6_isUnder_22 : decode cX6_isUnder 22 = .ok (.if_icmp .eq 15, 3) := by decide +kernel
theorem dX6_isUnder_25 : decode cX6_isUnder 25 = .ok (.getstatic 257, 3) := by decide +kernel
theorem dX6_isUnder_28 : decode cX6_isUnder 28 = .ok (.iload_n 2, 1) := by decide +kernel
theorem dX6_isUnder_29 : decode cX6_isUnder 29 = .ok (.iaload, 1) := by decide +kernel
theorem dX6_isUnder_30 : decode cX6_isUnder 30 = .ok (.istore_n 2, 1) := by decide +kernel
theorem dX6_isUnder_31 : decode cX6_isUnder 31 = .ok (.iinc 3 1, 3) := by decide +kernel
theorem dX6_isUnder_34 : decode cX6_isUnder 34 = .ok (.goto (-30), 3) := by decide +kernel
theorem dX6_isUnder_37 : decode cX6_isUnder 37 = .ok (.iload_n 2, 1) := by decide +kernel
theorem dX6_isUnder_38 : decode cX6_isUnder 38 = .ok (.iload_n 1, 1) := by decide +kernel
theorem dX6_isUnder_39 : decode cX6_isUnder 39 = .ok (.if_icmp .ne 7, 3) := by decide +kernel
theorem dX6_isUnder_42 : decode cX6_isUnder 42 = .ok (.iconst 1, 1) := by decide +kernel
theorem dX6_isUnder_43 : decode cX6_isUnder 43 = .ok (.goto 4, 3) := by decide +kernel
theorem dX6_isUnder_46 : decode cX6_isUnder 46 = .ok (.iconst 0, 1) := by decide +kernel
theorem dX6_isUnder_47 : decode cX6_isUnder 47 = .ok (.ireturn, 1) := by decide +kernel
theorem dX6_commonDivisor_0 : decode cX6_commonDivisor 0 = .ok (.iload_n 0, 1) := by decide +kernel
theorem dX6_commonDivisor_1 : decode cX6_commonDivisor 1 = .ok (.istore_n 2, 1) := by decide +kernel
theorem dX6_commonDivisor_2 : decode cX6_commonDivisor 2 = .ok (.iload_n 1, 1) := by decide +kernel
theorem dX6_commonDivisor_3 : decode cX6_commonDivisor 3 = .ok (.istore_n 3, 1) := by decide +kernel
theorem dX6_commonDivisor_4 : decode cX6_commonDivisor 4 = .ok (.iconst 0, 1) := by decide +kernel
theorem dX6_commonDivisor_5 : decode cX6_commonDivisor 5 = .ok (.istore 4, 2) := by decide +kernel
theorem dX6_commonDivisor_7 : decode cX6_commonDivisor 7 = .ok (.iload 4, 2) := by decide +kernel
theorem dX6_commonDivisor_9 : decode cX6_commonDivisor 9 = .ok (.bipush 64, 2) := by decide +kernel
theorem dX6_commonDivisor_11 : decode cX6_commonDivisor 11 = .ok (.if_icmp .ge 23, 3) := by decide +kernel
theorem dX6_commonDivisor_14 : decode cX6_commonDivisor 14 = .ok (.iload_n 3, 1) := by decide +kernel
theorem dX6_commonDivisor_15 : decode cX6_commonDivisor 15 = .ok (.ifCond .le 19, 3) := by decide +kernel
theorem dX6_commonDivisor_18 : decode cX6_commonDivisor 18 = .ok (.iload_n 2, 1) := by decide +kernel
theorem dX6_commonDivisor_19 : decode cX6_commonDivisor 19 = .ok (.iload_n 3, 1) := by decide +kernel
theorem dX6_commonDivisor_20 : decode cX6_commonDivisor 20 = .ok (.irem, 1) := by decide +kernel
theorem dX6_commonDivisor_21 : decode cX6_commonDivisor 21 = .ok (.istore 5, 2) := by decide +kernel
theorem dX6_commonDivisor_23 : decode cX6_commonDivisor 23 = .ok (.iload_n 3, 1) := by decide +kernel
theorem dX6_commonDivisor_24 : decode cX6_commonDivisor 24 = .ok (.istore_n 2, 1) := by decide +kernel
theorem dX6_commonDivisor_25 : decode cX6_commonDivisor 25 = .ok (.iload 5, 2) := by decide +kernel
theorem dX6_commonDivisor_27 : decode cX6_commonDivisor 27 = .ok (.istore_n 3, 1) := by decide +kernel
theorem dX6_commonDivisor_28 : decode cX6_commonDivisor 28 = .ok (.iinc 4 1, 3) := by decide +kernel
theorem dX6_commonDivisor_31 : decode cX6_commonDivisor 31 = .ok (.goto (-24), 3) := by decide +kernel
theorem dX6_commonDivisor_34 : decode cX6_commonDivisor 34 = .ok (.iload_n 2, 1) := by decide +kernel
theorem dX6_commonDivisor_35 : decode cX6_commonDivisor 35 = .ok (.ireturn, 1) := by decide +kernel
theorem dX6_think_0 : decode cX6_think 0 = .ok (.aload_n 0, 1) := by decide +kernel
theorem dX6_think_1 : decode cX6_think 1 = .ok (.getfield 22, 3) := by decide +kernel
theorem dX6_think_4 : decode cX6_think 4 = .ok (.aload_n 0, 1) := by decide +kernel
theorem dX6_think_5 : decode cX6_think 5 = .ok (.getfield 10, 3) := by decide +kernel
theorem dX6_think_8 : decode cX6_think 8 = .ok (.getfield 85, 3) := by decide +kernel
theorem dX6_think_11 : decode cX6_think 11 = .ok (.invokevirtual 260, 3) := by decide +kernel
theorem dX6_think_14 : decode cX6_think 14 = .ok (.iconst 0, 1) := by decide +kernel
theorem dX6_think_15 : decode cX6_think 15 = .ok (.istore_n 2, 1) := by decide +kernel
theorem dX6_think_16 : decode cX6_think 16 = .ok (.iload_n 2, 1) := by decide +kernel
theorem dX6_think_17 : decode cX6_think 17 = .ok (.iload_n 1, 1) := by decide +kernel
theorem dX6_think_18 : decode cX6_think 18 = .ok (.if_icmp .ge 21, 3) := by decide +kernel
theorem dX6_think_21 : decode cX6_think 21 = .ok (.aload_n 0, 1) := by decide +kernel
theorem dX6_think_22 : decode cX6_think 22 = .ok (.getfield 10, 3) := by decide +kernel
theorem dX6_think_25 : decode cX6_think 25 = .ok (.aload_n 0, 1) := by decide +kernel
theorem dX6_think_26 : decode cX6_think 26 = .ok (.getfield 22, 3) := by decide +kernel
theorem dX6_think_29 : decode cX6_think 29 = .ok (.invokevirtual 145, 3) := by decide +kernel
theorem dX6_think_32 : decode cX6_think 32 = .ok (.pop, 1) := by decide +kernel
theorem dX6_think_33 : decode cX6_think 33 = .ok (.iinc 2 1, 3) := by decide +kernel
theorem dX6_think_36 : decode cX6_think 36 = .ok (.goto (-20), 3) := by decide +kernel
theorem dX6_think_39 : decode cX6_think 39 = .ok (.return_, 1) := by decide +kernel
theorem dX6_thinkSigned_0 : decode cX6_thinkSigned 0 = .ok (.aload_n 0, 1) := by decide +kernel
theorem dX6_thinkSigned_1 : decode cX6_thinkSigned 1 = .ok (.getfield 26, 3) := by decide +kernel
theorem dX6_thinkSigned_4 : decode cX6_thinkSigned 4 = .ok (.aload_n 0, 1) := by decide +kernel
theorem dX6_thinkSigned_5 : decode cX6_thinkSigned 5 = .ok (.getfield 10, 3) := by decide +kernel
theorem dX6_thinkSigned_8 : decode cX6_thinkSigned 8 = .ok (.getfield 85, 3) := by decide +kernel
theorem dX6_thinkSigned_11 : decode cX6_thinkSigned 11 = .ok (.invokevirtual 260, 3) := by decide +kernel
theorem dX6_thinkSigned_14 : decode cX6_thinkSigned 14 = .ok (.iconst 0, 1) := by decide +kernel
theorem dX6_thinkSigned_15 : decode cX6_thinkSigned 15 = .ok (.istore_n 3, 1) := by decide +kernel
theorem dX6_thinkSigned_16 : decode cX6_thinkSigned 16 = .ok (.iload_n 3, 1) := by decide +kernel
theorem dX6_thinkSigned_17 : decode cX6_thinkSigned 17 = .ok (.aload_n 0, 1) := by decide +kernel
theorem dX6_thinkSigned_18 : decode cX6_thinkSigned 18 = .ok (.getfield 10, 3) := by decide +kernel
theorem dX6_thinkSigned_21 : decode cX6_thinkSigned 21 = .ok (.getfield 68, 3) := by decide +kernel
theorem dX6_thinkSigned_24 : decode cX6_thinkSigned 24 = .ok (.if_icmp .ge 19, 3) := by decide +kernel
theorem dX6_thinkSigned_27 : decode cX6_thinkSigned 27 = .ok (.aload_n 0, 1) := by decide +kernel
theorem dX6_thinkSigned_28 : decode cX6_thinkSigned 28 = .ok (.getfield 26, 3) := by decide +kernel
theorem dX6_thinkSigned_31 : decode cX6_thinkSigned 31 = .ok (.getfield 91, 3) := by decide +kernel
theorem dX6_thinkSigned_34 : decode cX6_thinkSigned 34 = .ok (.iload_n 3, 1) := by decide +kernel
theorem dX6_thinkSigned_35 : decode cX6_thinkSigned 35 = .ok (.iload_n 1, 1) := by decide +kernel
theorem dX6_thinkSigned_36 : decode cX6_thinkSigned 36 = .ok (.iastore, 1) := by decide +kernel
theorem dX6_thinkSigned_37 : decode cX6_thinkSigned 37 = .ok (.iinc 3 1, 3) := by decide +kernel
theorem dX6_thinkSigned_40 : decode cX6_thinkSigned 40 = .ok (.goto (-24), 3) := by decide +kernel
theorem dX6_thinkSigned_43 : decode cX6_thinkSigned 43 = .ok (.iconst 0, 1) := by decide +kernel
theorem dX6_thinkSigned_44 : decode cX6_thinkSigned 44 = .ok (.istore_n 3, 1) := by decide +kernel
theorem dX6_thinkSigned_45 : decode cX6_thinkSigned 45 = .ok (.iload_n 3, 1) := by decide +kernel
theorem dX6_thinkSigned_46 : decode cX6_thinkSigned 46 = .ok (.iload_n 2, 1) := by decide +kernel
theorem dX6_thinkSigned_47 : decode cX6_thinkSigned 47 = .ok (.if_icmp .ge 21, 3) := by decide +kernel
theorem dX6_thinkSigned_50 : decode cX6_thinkSigned 50 = .ok (.aload_n 0, 1) := by decide +kernel
theorem dX6_thinkSigned_51 : decode cX6_thinkSigned 51 = .ok (.getfield 10, 3) := by decide +kernel
theorem dX6_thinkSigned_54 : decode cX6_thinkSigned 54 = .ok (.aload_n 0, 1) := by decide +kernel
theorem dX6_thinkSigned_55 : decode cX6_thinkSigned 55 = .ok (.getfield 26, 3) := by decide +kernel
theorem dX6_thinkSigned_58 : decode cX6_thinkSigned 58 = .ok (.invokevirtual 145, 3) := by decide +kernel
theorem dX6_thinkSigned_61 : decode cX6_thinkSigned 61 = .ok (.pop, 1) := by decide +kernel
theorem dX6_thinkSigned_62 : decode cX6_thinkSigned 62 = .ok (.iinc 3 1, 3) := by decide +kernel
theorem dX6_thinkSigned_65 : decode cX6_thinkSigned 65 = .ok (.goto (-20), 3) := by decide +kernel
theorem dX6_thinkSigned_68 : decode cX6_thinkSigned 68 = .ok (.return_, 1) := by decide +kernel
theorem dX6_nearIfSigned_0 : decode cX6_nearIfSigned 0 = .ok (.iload_n 2, 1) := by decide +kernel
theorem dX6_nearIfSigned_1 : decode cX6_nearIfSigned 1 = .ok (.iload_n 1, 1) := by decide +kernel
theorem dX6_nearIfSigned_2 : decode cX6_nearIfSigned 2 = .ok (.ishr, 1) := by decide +kernel
theorem dX6_nearIfSigned_3 : decode cX6_nearIfSigned 3 = .ok (.iconst 1, 1) := by decide +kernel
theorem dX6_nearIfSigned_4 : decode cX6_nearIfSigned 4 = .ok (.iand, 1) := by decide +kernel
theorem dX6_nearIfSigned_5 : decode cX6_nearIfSigned 5 = .ok (.ifCond .eq 15, 3) := by decide +kernel
theorem dX6_nearIfSigned_8 : decode cX6_nearIfSigned 8 = .ok (.aload_n 0, 1) := by decide +kernel
theorem dX6_nearIfSigned_9 : decode cX6_nearIfSigned 9 = .ok (.getfield 26, 3) := by decide +kernel
theorem dX6_nearIfSigned_12 : decode cX6_nearIfSigned 12 = .ok (.getfield 88, 3) := by decide +kernel
theorem dX6_nearIfSigned_15 : decode cX6_nearIfSigned 15 = .ok (.iload_n 1, 1) := by decide +kernel
theorem dX6_nearIfSigned_16 : decode cX6_nearIfSigned 16 = .ok (.iaload, 1) := by decide +kernel
theorem dX6_nearIfSigned_17 : decode cX6_nearIfSigned 17 = .ok (.goto 12, 3) := by decide +kernel
theorem dX6_nearIfSigned_20 : decode cX6_nearIfSigned 20 = .ok (.aload_n 0, 1) := by decide +kernel
theorem dX6_nearIfSigned_21 : decode cX6_nearIfSigned 21 = .ok (.getfield 22, 3) := by decide +kernel
theorem dX6_nearIfSigned_24 : decode cX6_nearIfSigned 24 = .ok (.getfield 88, 3) := by decide +kernel
theorem dX6_nearIfSigned_27 : decode cX6_nearIfSigned 27 = .ok (.iload_n 1, 1) := by decide +kernel
theorem dX6_nearIfSigned_28 : decode cX6_nearIfSigned 28 = .ok (.iaload, 1) := by decide +kernel
theorem dX6_nearIfSigned_29 : decode cX6_nearIfSigned 29 = .ok (.ireturn, 1) := by decide +kernel
theorem dX6_nearestIfSigned_0 : decode cX6_nearestIfSigned 0 = .ok (.iconst (-1), 1) := by decide +kernel
theorem dX6_nearestIfSigned_1 : decode cX6_nearestIfSigned 1 = .ok (.istore_n 2, 1) := by decide +kernel
theorem dX6_nearestIfSigned_2 : decode cX6_nearestIfSigned 2 = .ok (.iconst 0, 1) := by decide +kernel
theorem dX6_nearestIfSigned_3 : decode cX6_nearestIfSigned 3 = .ok (.istore_n 3, 1) := by decide +kernel
theorem dX6_nearestIfSigned_4 : decode cX6_nearestIfSigned 4 = .ok (.iload_n 3, 1) := by decide +kernel
theorem dX6_nearestIfSigned_5 : decode cX6_nearestIfSigned 5 = .ok (.aload_n 0, 1) := by decide +kernel
theorem dX6_nearestIfSigned_6 : decode cX6_nearestIfSigned 6 = .ok (.getfield 10, 3) := by decide +kernel
theorem dX6_nearestIfSigned_9 : decode cX6_nearestIfSigned 9 = .ok (.getfield 68, 3) := by decide +kernel
theorem dX6_nearestIfSigned_12 : decode cX6_nearestIfSigned 12 = .ok (.if_icmp .ge 30, 3) := by decide +kernel
theorem dX6_nearestIfSigned_15 : decode cX6_nearestIfSigned 15 = .ok (.iload_n 2, 1) := by decide +kernel
theorem dX6_nearestIfSigned_16 : decode cX6_nearestIfSigned 16 = .ok (.ifCond .lt 18, 3) := by decide +kernel
theorem dX6_nearestIfSigned_19 : decode cX6_nearestIfSigned 19 = .ok (.aload_n 0, 1) := by decide +kernel
theorem dX6_nearestIfSigned_20 : decode cX6_nearestIfSigned 20 = .ok (.iload_n 3, 1) := by decide +kernel
theorem dX6_nearestIfSigned_21 : decode cX6_nearestIfSigned 21 = .ok (.iload_n 1, 1) := by decide +kernel
theorem dX6_nearestIfSigned_22 : decode cX6_nearestIfSigned 22 = .ok (.invokevirtual 263, 3) := by decide +kernel
theorem dX6_nearestIfSigned_25 : decode cX6_nearestIfSigned 25 = .ok (.aload_n 0, 1) := by decide +kernel
theorem dX6_nearestIfSigned_26 : decode cX6_nearestIfSigned 26 = .ok (.iload_n 2, 1) := by decide +kernel
theorem dX6_nearestIfSigned_27 : decode cX6_nearestIfSigned 27 = .ok (.iload_n 1, 1) := by decide +kernel
theorem dX6_nearestIfSigned_28 : decode cX6_nearestIfSigned 28 = .ok (.invokevirtual 263, 3) := by decide +kernel
theorem dX6_nearestIfSigned_31 : decode cX6_nearestIfSigned 31 = .ok (.if_icmp .le 5, 3) := by decide +kernel
theorem dX6_nearestIfSigned_34 : decode cX6_nearestIfSigned 34 = .ok (.iload_n 3, 1) := by decide +kernel
theorem dX6_nearestIfSigned_35 : decode cX6_nearestIfSigned 35 = .ok (.istore_n 2, 1) := by decide +kernel
theorem dX6_nearestIfSigned_36 : decode cX6_nearestIfSigned 36 = .ok (.iinc 3 1, 3) := by decide +kernel
theorem dX6_nearestIfSigned_39 : decode cX6_nearestIfSigned 39 = .ok (.goto (-35), 3) := by decide +kernel
theorem dX6_nearestIfSigned_42 : decode cX6_nearestIfSigned 42 = .ok (.iload_n 2, 1) := by decide +kernel
theorem dX6_nearestIfSigned_43 : decode cX6_nearestIfSigned 43 = .ok (.ireturn, 1) := by decide +kernel
theorem dX6_fewestFor_0 : decode cX6_fewestFor 0 = .ok (.iconst (-1), 1) := by decide +kernel
theorem dX6_fewestFor_1 : decode cX6_fewestFor 1 = .ok (.istore_n 2, 1) := by decide +kernel
theorem dX6_fewestFor_2 : decode cX6_fewestFor 2 = .ok (.iconst 0, 1) := by decide +kernel
theorem dX6_fewestFor_3 : decode cX6_fewestFor 3 = .ok (.istore_n 3, 1) := by decide +kernel
theorem dX6_fewestFor_4 : decode cX6_fewestFor 4 = .ok (.iload_n 3, 1) := by decide +kernel
theorem dX6_fewestFor_5 : decode cX6_fewestFor 5 = .ok (.iconst 1, 1) := by decide +kernel
theorem dX6_fewestFor_6 : decode cX6_fewestFor 6 = .ok (.aload_n 0, 1) := by decide +kernel
theorem dX6_fewestFor_7 : decode cX6_fewestFor 7 = .ok (.getfield 10, 3) := by decide +kernel
theorem dX6_fewestFor_10 : decode cX6_fewestFor 10 = .ok (.getfield 68, 3) := by decide +kernel
theorem dX6_fewestFor_13 : decode cX6_fewestFor 13 = .ok (.ishl, 1) := by decide +kernel
theorem dX6_fewestFor_14 : decode cX6_fewestFor 14 = .ok (.if_icmp .ge 47, 3) := by decide +kernel
theorem dX6_fewestFor_17 : decode cX6_fewestFor 17 = .ok (.iload_n 2, 1) := by decide +kernel
theorem dX6_fewestFor_18 : decode cX6_fewestFor 18 = .ok (.ifCond .lt 14, 3) := by decide +kernel
theorem dX6_fewestFor_21 : decode cX6_fewestFor 21 = .ok (.iload_n 3, 1) := by decide +kernel
theorem dX6_fewestFor_22 : decode cX6_fewestFor 22 = .ok (.invokestatic 173, 3) := by decide +kernel
theorem dX6_fewestFor_25 : decode cX6_fewestFor 25 = .ok (.iload_n 2, 1) := by decide +kernel
theorem dX6_fewestFor_26 : decode cX6_fewestFor 26 = .ok (.invokestatic 173, 3) := by decide +kernel
theorem dX6_fewestFor_29 : decode cX6_fewestFor 29 = .ok (.if_icmp .ge 7, 3) := by decide +kernel
theorem dX6_fewestFor_32 : decode cX6_fewestFor 32 = .ok (.iconst 1, 1) := by decide +kernel
theorem dX6_fewestFor_33 : decode cX6_fewestFor 33 = .ok (.goto 4, 3) := by decide +kernel
theorem dX6_fewestFor_36 : decode cX6_fewestFor 36 = .ok (.iconst 0, 1) := by decide +kernel
theorem dX6_fewestFor_37 : decode cX6_fewestFor 37 = .ok (.istore 4, 2) := by decide +kernel
theorem dX6_fewestFor_39 : decode cX6_fewestFor 39 = .ok (.iload 4, 2) := by decide +kernel
theorem dX6_fewestFor_41 : decode cX6_fewestFor 41 = .ok (.ifCond .eq 14, 3) := by decide +kernel
theorem dX6_fewestFor_44 : decode cX6_fewestFor 44 = .ok (.aload_n 0, 1) := by decide +kernel
theorem dX6_fewestFor_45 : decode cX6_fewestFor 45 = .ok (.iload_n 3, 1) := by decide +kernel
theorem dX6_fewestFor_46 : decode cX6_fewestFor 46 = .ok (.invokevirtual 266, 3) := by decide +kernel
theorem dX6_fewestFor_49 : decode cX6_fewestFor 49 = .ok (.iload_n 1, 1) := by decide +kernel
theorem dX6_fewestFor_50 : decode cX6_fewestFor 50 = .ok (.if_icmp .ne 5, 3) := by decide +kernel
theorem dX6_fewestFor_53 : decode cX6_fewestFor 53 = .ok (.iload_n 3, 1) := by decide +kernel
theorem dX6_fewestFor_54 : decode cX6_fewestFor 54 = .ok (.istore_n 2, 1) := by decide +kernel
theorem dX6_fewestFor_55 : decode cX6_fewestFor 55 = .ok (.iinc 3 1, 3) := by decide +kernel
theorem dX6_fewestFor_58 : decode cX6_fewestFor 58 = .ok (.goto (-54), 3) := by decide +kernel
theorem dX6_fewestFor_61 : decode cX6_fewestFor 61 = .ok (.iload_n 2, 1) := by decide +kernel
theorem dX6_fewestFor_62 : decode cX6_fewestFor 62 = .ok (.ireturn, 1) := by decide +kernel
theorem dX6_tellsMixed_0 : decode cX6_tellsMixed 0 = .ok (.aload_n 1, 1) := by decide +kernel
theorem dX6_tellsMixed_1 : decode cX6_tellsMixed 1 = .ok (.getfield 220, 3) := by decide +kernel
theorem dX6_tellsMixed_4 : decode cX6_tellsMixed 4 = .ok (.aload_n 0, 1) := by decide +kernel
theorem dX6_tellsMixed_5 : decode cX6_tellsMixed 5 = .ok (.getfield 10, 3) := by decide +kernel
theorem dX6_tellsMixed_8 : decode cX6_tellsMixed 8 = .ok (.getfield 68, 3) := by decide +kernel
theorem dX6_tellsMixed_11 : decode cX6_tellsMixed 11 = .ok (.if_icmp .le 5, 3) := by decide +kernel
theorem dX6_tellsMixed_14 : decode cX6_tellsMixed 14 = .ok (.iconst 0, 1) := by decide +kernel
theorem dX6_tellsMixed_15 : decode cX6_tellsMixed 15 = .ok (.ireturn, 1) := by decide +kernel
theorem dX6_tellsMixed_16 : decode cX6_tellsMixed 16 = .ok (.iconst 0, 1) := by decide +kernel
theorem dX6_tellsMixed_17 : decode cX6_tellsMixed 17 = .ok (.istore_n 3, 1) := by decide +kernel
theorem dX6_tellsMixed_18 : decode cX6_tellsMixed 18 = .ok (.iload_n 3, 1) := by decide +kernel
theorem dX6_tellsMixed_19 : decode cX6_tellsMixed 19 = .ok (.aload_n 1, 1) := by decide +kernel
theorem dX6_tellsMixed_20 : decode cX6_tellsMixed 20 = .ok (.getfield 220, 3) := by decide +kernel
theorem dX6_tellsMixed_23 : decode cX6_tellsMixed 23 = .ok (.if_icmp .ge 26, 3) := by decide +kernel
theorem dX6_tellsMixed_26 : decode cX6_tellsMixed 26 = .ok (.aload_n 1, 1) := by decide +kernel
theorem dX6_tellsMixed_27 : decode cX6_tellsMixed 27 = .ok (.getfield 230, 3) := by decide +kernel
theorem dX6_tellsMixed_30 : decode cX6_tellsMixed 30 = .ok (.iload_n 3, 1) := by decide +kernel
theorem dX6_tellsMixed_31 : decode cX6_tellsMixed 31 = .ok (.iaload, 1) := by decide +kernel
theorem dX6_tellsMixed_32 : decode cX6_tellsMixed 32 = .ok (.aload_n 0, 1) := by decide +kernel
theorem dX6_tellsMixed_33 : decode cX6_tellsMixed 33 = .ok (.iload_n 3, 1) := by decide +kernel
theorem dX6_tellsMixed_34 : decode cX6_tellsMixed 34 = .ok (.iload_n 2, 1) := by decide +kernel
theorem dX6_tellsMixed_35 : decode cX6_tellsMixed 35 = .ok (.invokevirtual 263, 3) := by decide +kernel
theorem dX6_tellsMixed_38 : decode cX6_tellsMixed 38 = .ok (.if_icmp .eq 5, 3) := by decide +kernel
theorem dX6_tellsMixed_41 : decode cX6_tellsMixed 41 = .ok (.iconst 0, 1) := by decide +kernel
theorem dX6_tellsMixed_42 : decode cX6_tellsMixed 42 = .ok (.ireturn, 1) := by decide +kernel
theorem dX6_tellsMixed_43 : decode cX6_tellsMixed 43 = .ok (.iinc 3 1, 3) := by decide +kernel
theorem dX6_tellsMixed_46 : decode cX6_tellsMixed 46 = .ok (.goto (-28), 3) := by decide +kernel
theorem dX6_tellsMixed_49 : decode cX6_tellsMixed 49 = .ok (.iconst 1, 1) := by decide +kernel
theorem dX6_tellsMixed_50 : decode cX6_tellsMixed 50 = .ok (.ireturn, 1) := by decide +kernel
theorem dX7_init_0 : decode cX7_init 0 = .ok (.aload_n 0, 1) := by decide +kernel
theorem dX7_init_1 : decode cX7_init 1 = .ok (.invokespecial 1, 3) := by decide +kernel
theorem dX7_init_4 : decode cX7_init 4 = .ok (.aload_n 0, 1) := by decide +kernel
theorem dX7_init_5 : decode cX7_init 5 = .ok (.sipush 382, 3) := by decide +kernel
theorem dX7_init_8 : decode cX7_init 8 = .ok (.newarray .int, 2) := by decide +kernel
theorem dX7_init_10 : decode cX7_init 10 = .ok (.putfield 7, 3) := by decide +kernel
theorem dX7_init_13 : decode cX7_init 13 = .ok (.aload_n 0, 1) := by decide +kernel
theorem dX7_init_14 : decode cX7_init 14 = .ok (.sipush 382, 3) := by decide +kernel
theorem dX7_init_17 : decode cX7_init 17 = .ok (.newarray .int, 2) := by decide +kernel
theorem dX7_init_19 : decode cX7_init 19 = .ok (.putfield 13, 3) := by decide +kernel
theorem dX7_init_22 : decode cX7_init 22 = .ok (.aload_n 0, 1) := by decide +kernel
theorem dX7_init_23 : decode cX7_init 23 = .ok (.bipush 48, 2) := by decide +kernel
theorem dX7_init_25 : decode cX7_init 25 = .ok (.newarray .int, 2) := by decide +kernel
theorem dX7_init_27 : decode cX7_init 27 = .ok (.putfield 16, 3) := by decide +kernel
theorem dX7_init_30 : decode cX7_init 30 = .ok (.aload_n 0, 1) := by decide +kernel
theorem dX7_init_31 : decode cX7_init 31 = .ok (.bipush 7, 2) := by decide +kernel
theorem dX7_init_33 : decode cX7_init 33 = .ok (.newarray .int, 2) := by decide +kernel
theorem dX7_init_35 : decode cX7_init 35 = .ok (.putfield 19, 3) := by decide +kernel
theorem dX7_init_38 : decode cX7_init 38 = .ok (.aload_n 0, 1) := by decide +kernel
theorem dX7_init_39 : decode cX7_init 39 = .ok (.bipush 124, 2) := by decide +kernel
theorem dX7_init_41 : decode cX7_init 41 = .ok (.newarray .int, 2) := by decide +kernel
theorem dX7_init_43 : decode cX7_init 43 = .ok (.putfield 22, 3) := by decide +kernel
theorem dX7_init_46 : decode cX7_init 46 = .ok (.aload_n 0, 1) := by decide +kernel
theorem dX7_init_47 : decode cX7_init 47 = .ok (.sipush 128, 3) := by decide +kernel
theorem dX7_init_50 : decode cX7_init 50 = .ok (.newarray .int, 2) := by decide +kernel
theorem dX7_init_52 : decode cX7_init 52 = .ok (.putfield 25, 3) := by decide +kernel
theorem dX7_init_55 : decode cX7_init 55 = .ok (.aload_n 0, 1) := by decide +kernel
theorem dX7_init_56 : decode cX7_init 56 = .ok (.bipush 64, 2) := by decide +kernel
theorem dX7_init_58 : decode cX7_init 58 = .ok (.newarray .int, 2) := by decide +kernel
theorem dX7_init_60 : decode cX7_init 60 = .ok (.putfield 28, 3) := by decide +kernel
theorem dX7_init_63 : decode cX7_init 63 = .ok (.aload_n 0, 1) := by decide +kernel
theorem dX7_init_64 : decode cX7_init 64 = .ok (.bipush 8, 2) := by decide +kernel
theorem dX7_init_66 : decode cX7_init 66 = .ok (.newarray .int, 2) := by decide +kernel
theorem dX7_init_68 : decode cX7_init 68 = .ok (.putfield 31, 3) := by decide +kernel
theorem dX7_init_71 : decode cX7_init 71 = .ok (.aload_n 0, 1) := by decide +kernel
theorem dX7_init_72 : decode cX7_init 72 = .ok (.bipush 8, 2) := by decide +kernel
theorem dX7_init_74 : decode cX7_init 74 = .ok (.newarray .int, 2) := by decide +kernel
theorem dX7_init_76 : decode cX7_init 76 = .ok (.putfield 34, 3) := by decide +kernel
theorem dX7_init_79 : decode cX7_init 79 = .ok (.aload_n 0, 1) := by decide +kernel
theorem dX7_init_80 : decode cX7_init 80 = .ok (.bipush 30, 2) := by decide +kernel
theorem dX7_init_82 : decode cX7_init 82 = .ok (.newarray .int, 2) := by decide +kernel
theorem dX7_init_84 : decode cX7_init 84 = .ok (.putfield 37, 3) := by decide +kernel
theorem dX7_init_87 : decode cX7_init 87 = .ok (.aload_n 0, 1) := by decide +kernel
theorem dX7_init_88 : decode cX7_init 88 = .ok (.iconst 4, 1) := by decide +kernel
theorem dX7_init_89 : decode cX7_init 89 = .ok (.newarray .int, 2) := by decide +kernel
theorem dX7_init_91 : decode cX7_init 91 = .ok (.putfield 40, 3) := by decide +kernel
theorem dX7_init_94 : decode cX7_init 94 = .ok (.aload_n 0, 1) := by decide +kernel
theorem dX7_init_95 : decode cX7_init 95 = .ok (.iconst 4, 1) := by decide +kernel
theorem dX7_init_96 : decode cX7_init 96 = .ok (.newarray .int, 2) := by decide +kernel
theorem dX7_init_98 : decode cX7_init 98 = .ok (.putfield 43, 3) := by decide +kernel
theorem dX7_init_101 : decode cX7_init 101 = .ok (.aload_n 0, 1) := by decide +kernel
theorem dX7_init_102 : decode cX7_init 102 = .ok (.bipush 96, 2) := by decide +kernel
theorem dX7_init_104 : decode cX7_init 104 = .ok (.newarray .int, 2) := by decide +kernel
theorem dX7_init_106 : decode cX7_init 106 = .ok (.putfield 46, 3) := by decide +kernel
theorem dX7_init_109 : decode cX7_init 109 = .ok (.aload_n 0, 1) := by decide +kernel
theorem dX7_init_110 : decode cX7_init 110 = .ok (.bipush 24, 2) := by decide +kernel
theorem dX7_init_112 : decode cX7_init 112 = .ok (.newarray .int, 2) := by decide +kernel
theorem dX7_init_114 : decode cX7_init 114 = .ok (.putfield 49, 3) := by decide +kernel
theorem dX7_init_117 : decode cX7_init 117 = .ok (.aload_n 0, 1) := by decide +kernel
theorem dX7_init_118 : decode cX7_init 118 = .ok (.getfield 7, 3) := by decide +kernel
theorem dX7_init_121 : decode cX7_init 121 = .ok (.iconst 1, 1) := by decide +kernel
theorem dX7_init_122 : decode cX7_init 122 = .ok (.iconst 1, 1) := by decide +kernel
theorem dX7_init_123 : decode cX7_init 123 = .ok (.iastore, 1) := by decide +kernel
theorem dX7_init_124 : decode cX7_init 124 = .ok (.return_, 1) := by decide +kernel
theorem dX7_error_0 : decode cX7_error 0 = .ok (.aload_n 0, 1) := by decide +kernel
theorem dX7_error_1 : decode cX7_error 1 = .ok (.getfield 19, 3) := by decide +kernel
theorem dX7_error_4 : decode cX7_error 4 = .ok (.iload_n 1, 1) := by decide +kernel
theorem dX7_error_5 : decode cX7_error 5 = .ok (.dup2, 1) := by decide +kernel
theorem dX7_error_6 : decode cX7_error 6 = .ok (.iaload, 1) := by decide +kernel
theorem dX7_error_7 : decode cX7_error 7 = .ok (.iconst 1, 1) := by decide +kernel
theorem dX7_error_8 : decode cX7_error 8 = .ok (.iadd, 1) := by decide +kernel
theorem dX7_error_9 : decode cX7_error 9 = .ok (.iastore, 1) := by decide +kernel
theorem dX7_error_10 : decode cX7_error 10 = .ok (.ldc 52, 2) := by decide +kernel
theorem dX7_error_12 : decode cX7_error 12 = .ok (.iload_n 1, 1) := by decide +kernel
theorem dX7_error_13 : decode cX7_error 13 = .ok (.isub, 1) := by decide +kernel
theorem dX7_error_14 : decode cX7_error 14 = .ok (.ireturn, 1) := by decide +kernel
theorem dX7_in_0 : decode cX7_in 0 = .ok (.iload_n 0, 1) := by decide +kernel
theorem dX7_in_1 : decode cX7_in 1 = .ok (.iload_n 1, 1) := by decide +kernel
theorem dX7_in_2 : decode cX7_in 2 = .ok (.if_icmp .lt 12, 3) := by decide +kernel
theorem dX7_in_5 : decode cX7_in 5 = .ok (.iload_n 0, 1) := by decide +kernel
theorem dX7_in_6 : decode cX7_in 6 = .ok (.iload_n 2, 1) := by decide +kernel
theorem dX7_in_7 : decode cX7_in 7 = .ok (.if_icmp .gt 7, 3) := by decide +kernel
theorem dX7_in_10 : decode cX7_in 10 = .ok (.iconst 1, 1) := by decide +kernel
theorem dX7_in_11 : decode cX7_in 11 = .ok (.goto 4, 3) := by decide +kernel
theorem dX7_in_14 : decode cX7_in 14 = .ok (.iconst 0, 1) := by decide +kernel
theorem dX7_in_15 : decode cX7_in 15 = .ok (.ireturn, 1) := by decide +kernel
theorem dX7_held_0 : decode cX7_held 0 = .ok (.iload_n 0, 1) := by decide +kernel
theorem dX7_held_1 : decode cX7_held 1 = .ok (.iload_n 1, 1) := by decide +kernel
theorem dX7_held_2 : decode cX7_held 2 = .ok (.if_icmp .ge 7, 3) := by decide +kernel
theorem dX7_held_5 : decode cX7_held 5 = .ok (.iload_n 1, 1) := by decide +kernel
theorem dX7_held_6 : decode cX7_held 6 = .ok (.goto 13, 3) := by decide +kernel
theorem dX7_held_9 : decode cX7_held 9 = .ok (.iload_n 0, 1) := by decide +kernel
theorem dX7_held_10 : decode cX7_held 10 = .ok (.iload_n 2, 1) := by decide +kernel
theorem dX7_held_11 : decode cX7_held 11 = .ok (.if_icmp .le 7, 3) := by decide +kernel
theorem dX7_held_14 : decode cX7_held 14 = .ok (.iload_n 2, 1) := by decide +kernel
theorem dX7_held_15 : decode cX7_held 15 = .ok (.goto 4, 3) := by decide +kernel
theorem dX7_held_18 : decode cX7_held 18 = .ok (.iload_n 0, 1) := by decide +kernel
theorem dX7_held_19 : decode cX7_held 19 = .ok (.ireturn, 1) := by decide +kernel
theorem dX7_copyAll_0 : decode cX7_copyAll 0 = .ok (.iconst 0, 1) := by decide +kernel
theorem dX7_copyAll_1 : decode cX7_copyAll 1 = .ok (.istore_n 2, 1) := by decide +kernel
theorem dX7_copyAll_2 : decode cX7_copyAll 2 = .ok (.iload_n 2, 1) := by decide +kernel
theorem dX7_copyAll_3 : decode cX7_copyAll 3 = .ok (.sipush 382, 3) := by decide +kernel
theorem dX7_copyAll_6 : decode cX7_copyAll 6 = .ok (.if_icmp .ge 15, 3) := by decide +kernel
theorem dX7_copyAll_9 : decode cX7_copyAll 9 = .ok (.aload_n 1, 1) := by decide +kernel
theorem dX7_copyAll_10 : decode cX7_copyAll 10 = .ok (.iload_n 2, 1) := by decide +kernel
theorem dX7_copyAll_11 : decode cX7_copyAll 11 = .ok (.aload_n 0, 1) := by decide +kernel
theorem dX7_copyAll_12 : decode cX7_copyAll 12 = .ok (.iload_n 2, 1) := by decide +kernel
theorem dX7_copyAll_13 : decode cX7_copyAll 13 = .ok (.iaload, 1) := by decide +kernel
theorem dX7_copyAll_14 : decode cX7_copyAll 14 = .ok (.iastore, 1) := by decide +kernel
theorem dX7_copyAll_15 : decode cX7_copyAll 15 = .ok (.iinc 2 1, 3) := by decide +kernel
theorem dX7_copyAll_18 : decode cX7_copyAll 18 = .ok (.goto (-16), 3) := by decide +kernel
theorem dX7_copyAll_21 : decode cX7_copyAll 21 = .ok (.return_, 1) := by decide +kernel
theorem dX7_layDown_0 : decode cX7_layDown 0 = .ok (.iconst 0, 1) := by decide +kernel
theorem dX7_layDown_1 : decode cX7_layDown 1 = .ok (.istore_n 1, 1) := by decide +kernel
theorem dX7_layDown_2 : decode cX7_layDown 2 = .ok (.iload_n 1, 1) := by decide +kernel
theorem dX7_layDown_3 : decode cX7_layDown 3 = .ok (.bipush 48, 2) := by decide +kernel
theorem dX7_layDown_5 : decode cX7_layDown 5 = .ok (.if_icmp .ge 21, 3) := by decide +kernel
theorem dX7_layDown_8 : decode cX7_layDown 8 = .ok (.aload_n 0, 1) := by decide +kernel
theorem dX7_layDown_9 : decode cX7_layDown 9 = .ok (.getfield 16, 3) := by decide +kernel
theorem dX7_layDown_12 : decode cX7_layDown 12 = .ok (.iload_n 1, 1) := by decide +kernel
theorem dX7_layDown_13 : decode cX7_layDown 13 = .ok (.aload_n 0, 1) := by decide +kernel
theorem dX7_layDown_14 : decode cX7_layDown 14 = .ok (.getfield 7, 3) := by decide +kernel
theorem dX7_layDown_17 : decode cX7_layDown 17 = .ok (.iload_n 1, 1) := by decide +kernel
theorem dX7_layDown_18 : decode cX7_layDown 18 = .ok (.iaload, 1) := by decide +kernel
theorem dX7_layDown_19 : decode cX7_layDown 19 = .ok (.iastore, 1) := by decide +kernel
theorem dX7_layDown_20 : decode cX7_layDown 20 = .ok (.iinc 1 1, 3) := by decide +kernel
theorem dX7_layDown_23 : decode cX7_layDown 23 = .ok (.goto (-21), 3) := by decide +kernel
theorem dX7_layDown_26 : decode cX7_layDown 26 = .ok (.return_, 1) := by decide +kernel
theorem dX7_layBack_0 : decode cX7_layBack 0 = .ok (.iconst 0, 1) := by decide +kernel
theorem dX7_layBack_1 : decode cX7_layBack 1 = .ok (.istore_n 1, 1) := by decide +kernel
theorem dX7_layBack_2 : decode cX7_layBack 2 = .ok (.iload_n 1, 1) := by decide +kernel
theorem dX7_layBack_3 : decode cX7_layBack 3 = .ok (.bipush 48, 2) := by decide +kernel
theorem dX7_layBack_5 : decode cX7_layBack 5 = .ok (.if_icmp .ge 21, 3) := by decide +kernel
theorem dX7_layBack_8 : decode cX7_layBack 8 = .ok (.aload_n 0, 1) := by decide +kernel
theorem dX7_layBack_9 : decode cX7_layBack 9 = .ok (.getfield 7, 3) := by decide +kernel
theorem dX7_layBack_12 : decode cX7_layBack 12 = .ok (.iload_n 1, 1) := by decide +kernel
theorem dX7_layBack_13 : decode cX7_layBack 13 = .ok (.aload_n 0, 1) := by decide +kernel
theorem dX7_layBack_14 : decode cX7_layBack 14 = .ok (.getfield 16, 3) := by decide +kernel
theorem dX7_layBack_17 : decode cX7_layBack 17 = .ok (.iload_n 1, 1) := by decide +kernel
theorem dX7_layBack_18 : decode cX7_layBack 18 = .ok (.iaload, 1) := by decide +kernel
theorem dX7_layBack_19 : decode cX7_layBack 19 = .ok (.iastore, 1) := by decide +kernel
theorem dX7_layBack_20 : decode cX7_layBack 20 = .ok (.iinc 1 1, 3) := by decide +kernel
theorem dX7_layBack_23 : decode cX7_layBack 23 = .ok (.goto (-21), 3) := by decide +kernel
theorem dX7_layBack_26 : decode cX7_layBack 26 = .ok (.return_, 1) := by decide +kernel
theorem dX7_isPerson_0 : decode cX7_isPerson 0 = .ok (.iload_n 1, 1) := by decide +kernel
theorem dX7_isPerson_1 : decode cX7_isPerson 1 = .ok (.iconst 0, 1) := by decide +kernel
theorem dX7_isPerson_2 : decode cX7_isPerson 2 = .ok (.aload_n 0, 1) := by decide +kernel
theorem dX7_isPerson_3 : decode cX7_isPerson 3 = .ok (.getfield 7, 3) := by decide +kernel
theorem dX7_isPerson_6 : decode cX7_isPerson 6 = .ok (.iconst 4, 1) := by decide +kernel
theorem dX7_isPerson_7 : decode cX7_isPerson 7 = .ok (.iaload, 1) := by decide +kernel
theorem dX7_isPerson_8 : decode cX7_isPerson 8 = .ok (.iconst 1, 1) := by decide +kernel
theorem dX7_isPerson_9 : decode cX7_isPerson 9 = .ok (.isub, 1) := by decide +kernel
theorem dX7_isPerson_10 : decode cX7_isPerson 10 = .ok (.invokestatic 53, 3) := by decide +kernel
theorem dX7_isPerson_13 : decode cX7_isPerson 13 = .ok (.ireturn, 1) := by decide +kernel
theorem dX7_areTwo_0 : decode cX7_areTwo 0 = .ok (.aload_n 0, 1) := by decide +kernel
theorem dX7_areTwo_1 : decode cX7_areTwo 1 = .ok (.iload_n 1, 1) := by decide +kernel
theorem dX7_areTwo_2 : decode cX7_areTwo 2 = .ok (.invokevirtual 57, 3) := by decide +kernel
theorem dX7_areTwo_5 : decode cX7_areTwo 5 = .ok (.ifCond .eq 20, 3) := by decide +kernel
theorem dX7_areTwo_8 : decode cX7_areTwo 8 = .ok (.aload_n 0, 1) := by decide +kernel
theorem dX7_areTwo_9 : decode cX7_areTwo 9 = .ok (.iload_n 2, 1) := by decide +kernel
theorem dX7_areTwo_10 : decode cX7_areTwo 10 = .ok (.invokevirtual 57, 3) := by decide +kernel
theorem dX7_areTwo_13 : decode cX7_areTwo 13 = .ok (.ifCond .eq 12, 3) := by decide +kernel
theorem dX7_areTwo_16 : decode cX7_areTwo 16 = .ok (.iload_n 1, 1) := by decide +kernel
theorem dX7_areTwo_17 : decode cX7_areTwo 17 = .ok (.iload_n 2, 1) := by decide +kernel
theorem dX7_areTwo_18 : decode cX7_areTwo 18 = .ok (.if_icmp .eq 7, 3) := by decide +kernel
theorem dX7_areTwo_21 : decode cX7_areTwo 21 = .ok (.iconst 1, 1) := by decide +kernel
theorem dX7_areTwo_22 : decode cX7_areTwo 22 = .ok (.goto 4, 3) := by decide +kernel
theorem dX7_areTwo_25 : decode cX7_areTwo 25 = .ok (.iconst 0, 1) := by decide +kernel
theorem dX7_areTwo_26 : decode cX7_areTwo 26 = .ok (.ireturn, 1) := by decide +kernel
theorem dX7_its_0 : decode cX7_its 0 = .ok (.aload_n 0, 1) := by decide +kernel
theorem dX7_its_1 : decode cX7_its 1 = .ok (.getfield 7, 3) := by decide +kernel
theorem dX7_its_4 : decode cX7_its 4 = .ok (.bipush 8, 2) := by decide +kernel
theorem dX7_its_6 : decode cX7_its 6 = .ok (.iconst 5, 1) := by decide +kernel
theorem dX7_its_7 : decode cX7_its 7 = .ok (.iload_n 1, 1) := by decide +kernel
theorem dX7_its_8 : decode cX7_its 8 = .ok (.imul, 1) := by decide +kernel
theorem dX7_its_9 : decode cX7_its 9 = .ok (.iadd, 1) := by decide +kernel
theorem dX7_its_10 : decode cX7_its 10 = .ok (.iload_n 2, 1) := by decide +kernel
theorem dX7_its_11 : decode cX7_its 11 = .ok (.iadd, 1) := by decide +kernel
theorem dX7_its_12 : decode cX7_its 12 = .ok (.iaload, 1) := by decide +kernel
theorem dX7_its_13 : decode cX7_its 13 = .ok (.ireturn, 1) := by decide +kernel
theorem dX7_lays1_0 : decode cX7_lays1 0 = .ok (.aload_n 0, 1) := by decide +kernel
theorem dX7_lays1_1 : decode cX7_lays1 1 = .ok (.getfield 7, 3) := by decide +kernel
theorem dX7_lays1_4 : decode cX7_lays1 4 = .ok (.bipush 8, 2) := by decide +kernel
theorem dX7_lays1_6 : decode cX7_lays1 6 = .ok (.iconst 5, 1) := by decide +kernel
theorem dX7_lays1_7 : decode cX7_lays1 7 = .ok (.iload_n 1, 1) := by decide +kernel
theorem dX7_lays1_8 : decode cX7_lays1 8 = .ok (.imul, 1) := by decide +kernel
theorem dX7_lays1_9 : decode cX7_lays1 9 = .ok (.iadd, 1) := by decide +kernel
theorem dX7_lays1_10 : decode cX7_lays1 10 = .ok (.iload_n 2, 1) := by decide +kernel
theorem dX7_lays1_11 : decode cX7_lays1 11 = .ok (.iadd, 1) := by decide +kernel
theorem dX7_lays1_12 : decode cX7_lays1 12 = .ok (.iload_n 3, 1) := by decide +kernel
theorem dX7_lays1_13 : decode cX7_lays1 13 = .ok (.iastore, 1) := by decide +kernel
theorem dX7_lays1_14 : decode cX7_lays1 14 = .ok (.return_, 1) := by decide +kernel
theorem dX7_change1_0 : decode cX7_change1 0 = .ok (.aload_n 0, 1) := by decide +kernel
theorem dX7_change1_1 : decode cX7_change1 1 = .ok (.getfield 7, 3) := by decide +kernel
theorem dX7_change1_4 : decode cX7_change1 4 = .ok (.iload_n 1, 1) := by decide +kernel
theorem dX7_change1_5 : decode cX7_change1 5 = .ok (.iaload, 1) := by decide +kernel
theorem dX7_change1_6 : decode cX7_change1 6 = .ok (.istore_n 3, 1) := by decide +kernel
theorem dX7_change1_7 : decode cX7_change1 7 = .ok (.aload_n 0, 1) := by decide +kernel
theorem dX7_change1_8 : decode cX7_change1 8 = .ok (.getfield 7, 3) := by decide +kernel
theorem dX7_change1_11 : decode cX7_change1 11 = .ok (.iload_n 1, 1) := by decide +kernel
theorem dX7_change1_12 : decode cX7_change1 12 = .ok (.iload_n 2, 1) := by decide +kernel
theorem dX7_change1_13 : decode cX7_change1 13 = .ok (.iastore, 1) := by decide +kernel
theorem dX7_change1_14 : decode cX7_change1 14 = .ok (.iload_n 3, 1) := by decide +kernel
theorem dX7_change1_15 : decode cX7_change1 15 = .ok (.ireturn, 1) := by decide +kernel
theorem dX7_feed_0 : decode cX7_feed 0 = .ok (.iload_n 3, 1) := by decide +kernel
theorem dX7_feed_1 : decode cX7_feed 1 = .ok (.iconst 1, 1) := by decide +kernel
theorem dX7_feed_2 : decode cX7_feed 2 = .ok (.bipush 8, 2) := by decide +kernel
theorem dX7_feed_4 : decode cX7_feed 4 = .ok (.invokestatic 53, 3) := by decide +kernel
theorem dX7_feed_7 : decode cX7_feed 7 = .ok (.ifCond .ne 9, 3) := by decide +kernel
theorem dX7_feed_10 : decode cX7_feed 10 = .ok (.aload_n 0, 1) := by decide +kernel
theorem dX7_feed_11 : decode cX7_feed 11 = .ok (.iconst 1, 1) := by decide +kernel
theorem dX7_feed_12 : decode cX7_feed 12 = .ok (.invokevirtual 61, 3) := by decide +kernel
theorem dX7_feed_15 : decode cX7_feed 15 = .ok (.ireturn, 1) := by decide +kernel
theorem dX7_feed_16 : decode cX7_feed 16 = .ok (.aload_n 0, 1) := by decide +kernel
theorem dX7_feed_17 : decode cX7_feed 17 = .ok (.getfield 7, 3) := by decide +kernel
theorem dX7_feed_20 : decode cX7_feed 20 = .ok (.iconst 2, 1) := by decide +kernel
theorem dX7_feed_21 : decode cX7_feed 21 = .ok (.iaload, 1) := by decide +kernel
theorem dX7_feed_22 : decode cX7_feed 22 = .ok (.iload_n 3, 1) := by decide +kernel
theorem dX7_feed_23 : decode cX7_feed 23 = .ok (.iadd, 1) := by decide +kernel
theorem dX7_feed_24 : decode cX7_feed 24 = .ok (.bipush 60, 2) := by decide +kernel
theorem dX7_feed_26 : decode cX7_feed 26 = .ok (.if_icmp .le 9, 3) := by decide +kernel
theorem dX7_feed_29 : decode cX7_feed 29 = .ok (.aload_n 0, 1) := by decide +kernel
theorem dX7_feed_30 : decode cX7_feed 30 = .ok (.iconst 4, 1) := by decide +kernel
theorem dX7_feed_31 : decode cX7_feed 31 = .ok (.invokevirtual 61, 3) := by decide +kernel
theorem dX7_feed_34 : decode cX7_feed 34 = .ok (.ireturn, 1) := by decide +kernel
theorem dX7_feed_35 : decode cX7_feed 35 = .ok (.iconst 0, 1) := by decide +kernel
theorem dX7_feed_36 : decode cX7_feed 36 = .ok (.istore 4, 2) := by decide +kernel
theorem dX7_feed_38 : decode cX7_feed 38 = .ok (.iload 4, 2) := by decide +kernel
theorem dX7_feed_40 : decode cX7_feed 40 = .ok (.iload_n 3, 1) := by decide +kernel
theorem dX7_feed_41 : decode cX7_feed 41 = .ok (.if_icmp .ge 46, 3) := by decide +kernel
theorem dX7_feed_44 : decode cX7_feed 44 = .ok (.aload_n 0, 1) := by decide +kernel
theorem dX7_feed_45 : decode cX7_feed 45 = .ok (.getfield 7, 3) := by decide +kernel
theorem dX7_feed_48 : decode cX7_feed 48 = .ok (.sipush 298, 3) := by decide +kernel
theorem dX7_feed_51 : decode cX7_feed 51 = .ok (.aload_n 0, 1) := by decide +kernel
theorem dX7_feed_52 : decode cX7_feed 52 = .ok (.getfield 7, 3) := by decide +kernel
theorem dX7_feed_55 : decode cX7_feed 55 = .ok (.iconst 2, 1) := by decide +kernel
theorem dX7_feed_56 : decode cX7_feed 56 = .ok (.iaload, 1) := by decide +kernel
theorem dX7_feed_57 : decode cX7_feed 57 = .ok (.iadd, 1) := by decide +kernel
theorem dX7_feed_58 : decode cX7_feed 58 = .ok (.lload_n 1, 1) := by decide +kernel
theorem dX7_feed_59 : decode cX7_feed 59 = .ok (.bipush 8, 2) := by decide +kernel
theorem dX7_feed_61 : decode cX7_feed 61 = .ok (.iload 4, 2) := by decide +kernel
theorem dX7_feed_63 : decode cX7_feed 63 = .ok (.imul, 1) := by decide +kernel
theorem dX7_feed_64 : decode cX7_feed 64 = .ok (.lshr, 1) := by decide +kernel
theorem dX7_feed_65 : decode cX7_feed 65 = .ok (.ldc2_w 65, 3) := by decide +kernel
theorem dX7_feed_68 : decode cX7_feed 68 = .ok (.land, 1) := by decide +kernel
theorem dX7_feed_69 : decode cX7_feed 69 = .ok (.l2i, 1) := by decide +kernel
theorem dX7_feed_70 : decode cX7_feed 70 = .ok (.iastore, 1) := by decide +kernel
theorem dX7_feed_71 : decode cX7_feed 71 = .ok (.aload_n 0, 1) := by decide +kernel
theorem dX7_feed_72 : decode cX7_feed 72 = .ok (.getfield 7, 3) := by decide +kernel
theorem dX7_feed_75 : decode cX7_feed 75 = .ok (.iconst 2, 1) := by decide +kernel
theorem dX7_feed_76 : decode cX7_feed 76 = .ok (.dup2, 1) := by decide +kernel
theorem dX7_feed_77 : decode cX7_feed 77 = .ok (.iaload, 1) := by decide +kernel
theorem dX7_feed_78 : decode cX7_feed 78 = .ok (.iconst 1, 1) := by decide +kernel
theorem dX7_feed_79 : decode cX7_feed 79 = .ok (.iadd, 1) := by decide +kernel
theorem dX7_feed_80 : decode cX7_feed 80 = .ok (.iastore, 1) := by decide +kernel
theorem dX7_feed_81 : decode cX7_feed 81 = .ok (.iinc 4 1, 3) := by decide +kernel
theorem dX7_feed_84 : decode cX7_feed 84 = .ok (.goto (-46), 3) := by decide +kernel
theorem dX7_feed_87 : decode cX7_feed 87 = .ok (.aload_n 0, 1) := by decide +kernel
theorem dX7_feed_88 : decode cX7_feed 88 = .ok (.getfield 7, 3) := by decide +kernel
theorem dX7_feed_91 : decode cX7_feed 91 = .ok (.iconst 2, 1) := by decide +kernel
theorem dX7_feed_92 : decode cX7_feed 92 = .ok (.iaload, 1) := by decide +kernel
theorem dX7_feed_93 : decode cX7_feed 93 = .ok (.ireturn, 1) := by decide +kernel
theorem dX7_look_0 : decode cX7_look 0 = .ok (.aload_n 0, 1) := by decide +kernel
theorem dX7_look_1 : decode cX7_look 1 = .ok (.getfield 67, 3) := by decide +kernel
theorem dX7_look_4 : decode cX7_look 4 = .ok (.aload_n 0, 1) := by decide +kernel
theorem dX7_look_5 : decode cX7_look 5 = .ok (.getfield 7, 3) := by decide +kernel
theorem dX7_look_8 : decode cX7_look 8 = .ok (.iconst 2, 1) := by decide +kernel
theorem dX7_look_9 : decode cX7_look 9 = .ok (.iaload, 1) := by decide +kernel
theorem dX7_look_10 : decode cX7_look 10 = .ok (.if_icmp .ge 19, 3) := by decide +kernel
theorem dX7_look_13 : decode cX7_look 13 = .ok (.aload_n 0, 1) := by decide +kernel
theorem dX7_look_14 : decode cX7_look 14 = .ok (.getfield 7, 3) := by decide +kernel
theorem dX7_look_17 : decode cX7_look 17 = .ok (.sipush 298, 3) := by decide +kernel
theorem dX7_look_20 : decode cX7_look 20 = .ok (.aload_n 0, 1) := by decide +kernel
theorem dX7_look_21 : decode cX7_look 21 = .ok (.getfield 67, 3) := by decide +kernel
theorem dX7_look_24 : decode cX7_look 24 = .ok (.iadd, 1) := by decide +kernel
theorem dX7_look_25 : decode cX7_look 25 = .ok (.iaload, 1) := by decide +kernel
theorem dX7_look_26 : decode cX7_look 26 = .ok (.goto 4, 3) := by decide +kernel
theorem dX7_look_29 : decode cX7_look 29 = .ok (.iconst (-1), 1) := by decide +kernel
theorem dX7_look_30 : decode cX7_look 30 = .ok (.ireturn, 1) := by decide +kernel
theorem dX7_isName_0 : decode cX7_isName 0 = .ok (.iload_n 1, 1) := by decide +kernel
theorem dX7_isName_1 : decode cX7_isName 1 = .ok (.bipush 110, 2) := by decide +kernel
theorem dX7_isName_3 : decode cX7_isName 3 = .ok (.if_icmp .ne 5, 3) := by decide +kernel
theorem dX7_isName_6 : decode cX7_isName 6 = .ok (.iconst 1, 1) := by decide +kernel
theorem dX7_isName_7 : decode cX7_isName 7 = .ok (.ireturn, 1) := by decide +kernel
theorem dX7_isName_8 : decode cX7_isName 8 = .ok (.aload_n 0, 1) := by decide +kernel
theorem dX7_isName_9 : decode cX7_isName 9 = .ok (.getfield 71, 3) := by decide +kernel
theorem dX7_isName_12 : decode cX7_isName 12 = .ok (.ifCond .ne 23, 3) := by decide +kernel
theorem dX7_isName_15 : decode cX7_isName 15 = .ok (.iload_n 1, 1) := by decide +kernel
theorem dX7_isName_16 : decode cX7_isName 16 = .ok (.bipush 114, 2) := by decide +kernel
theorem dX7_isName_18 : decode cX7_isName 18 = .ok (.if_icmp .eq 9, 3) := by decide +kernel
theorem dX7_isName_21 : decode cX7_isName 21 = .ok (.iload_n 1, 1) := by decide +kernel
theorem dX7_isName_22 : decode cX7_isName 22 = .ok (.bipush 115, 2) := by decide +kernel
theorem dX7_isName_24 : decode cX7_isName 24 = .ok (.if_icmp .ne 7, 3) := by decide +kernel
theorem dX7_isName_27 : decode cX7_isName 27 = .ok (.iconst 1, 1) := by decide +kernel
theorem dX7_isName_28 : decode cX7_isName 28 = .ok (.goto 24, 3) := by decide +kernel
theorem dX7_isName_31 : decode cX7_isName 31 = .ok (.iconst 0, 1) := by decide +kernel
theorem dX7_isName_32 : decode cX7_isName 32 = .ok (.goto 20, 3) := by decide +kernel
theorem dX7_isName_35 : decode cX7_isName 35 = .ok (.iload_n 1, 1) := by decide +kernel
theorem dX7_isName_36 : decode cX7_isName 36 = .ok (.bipush 103, 2) := by decide +kernel
theorem dX7_isName_38 : decode cX7_isName 38 = .ok (.if_icmp .eq 9, 3) := by decide +kernel
theorem dX7_isName_41 : decode cX7_isName 41 = .ok (.iload_n 1, 1) := by decide +kernel
theorem dX7_isName_42 : decode cX7_isName 42 = .ok (.bipush 100, 2) := by decide +kernel
theorem dX7_isName_44 : decode cX7_isName 44 = .ok (.if_icmp .ne 7, 3) := by decide +kernel
theorem dX7_isName_47 : decode cX7_isName 47 = .ok (.iconst 1, 1) := by decide +kernel
theorem dX7_isName_48 : decode cX7_isName 48 = .ok (.goto 4, 3) := by decide +kernel
theorem dX7_isName_51 : decode cX7_isName 51 = .ok (.iconst 0, 1) := by decide +kernel
theorem dX7_isName_52 : decode cX7_isName 52 = .ok (.ireturn, 1) := by decide +kernel
theorem dX7_step1_0 : decode cX7_step1 0 = .ok (.aload_n 0, 1) := by decide +kernel
theorem dX7_step1_1 : decode cX7_step1 1 = .ok (.getfield 22, 3) := by decide +kernel
theorem dX7_step1_4 : decode cX7_step1 4 = .ok (.iconst 2, 1) := by decide +kernel
theorem dX7_step1_5 : decode cX7_step1 5 = .ok (.aload_n 0, 1) := by decide +kernel
theorem dX7_step1_6 : decode cX7_step1 6 = .ok (.getfield 74, 3) := by decide +kernel
theorem dX7_step1_9 : decode cX7_step1 9 = .ok (.imul, 1) := by decide +kernel
theorem dX7_step1_10 : decode cX7_step1 10 = .ok (.iload_n 1, 1) := by decide +kernel
theorem dX7_step1_11 : decode cX7_step1 11 = .ok (.iastore, 1) := by decide +kernel
theorem dX7_step1_12 : decode cX7_step1 12 = .ok (.aload_n 0, 1) := by decide +kernel
theorem dX7_step1_13 : decode cX7_step1 13 = .ok (.getfield 22, 3) := by decide +kernel
theorem dX7_step1_16 : decode cX7_step1 16 = .ok (.iconst 2, 1) := by decide +kernel
theorem dX7_step1_17 : decode cX7_step1 17 = .ok (.aload_n 0, 1) := by decide +kernel
theorem dX7_step1_18 : decode cX7_step1 18 = .ok (.getfield 74, 3) := by decide +kernel
theorem dX7_step1_21 : decode cX7_step1 21 = .ok (.imul, 1) := by decide +kernel
theorem dX7_step1_22 : decode cX7_step1 22 = .ok (.iconst 1, 1) := by decide +kernel
theorem dX7_step1_23 : decode cX7_step1 23 = .ok (.iadd, 1) := by decide +kernel
theorem dX7_step1_24 : decode cX7_step1 24 = .ok (.iload_n 2, 1) := by decide +kernel
theorem dX7_step1_25 : decode cX7_step1 25 = .ok (.iastore, 1) := by decide +kernel
theorem dX7_step1_26 : decode cX7_step1 26 = .ok (.aload_n 0, 1) := by decide +kernel
theorem dX7_step1_27 : decode cX7_step1 27 = .ok (.dup, 1) := by decide +kernel
theorem dX7_step1_28 : decode cX7_step1 28 = .ok (.getfield 74, 3) := by decide +kernel
theorem dX7_step1_31 : decode cX7_step1 31 = .ok (.iconst 1, 1) := by decide +kernel
theorem dX7_step1_32 : decode cX7_step1 32 = .ok (.iadd, 1) := by decide +kernel
theorem dX7_step1_33 : decode cX7_step1 33 = .ok (.putfield 74, 3) := by decide +kernel
theorem dX7_step1_36 : decode cX7_step1 36 = .ok (.return_, 1) := by decide +kernel
theorem dX7_whole_0 : decode cX7_whole 0 = .ok (.aload_n 0, 1) := by decide +kernel
theorem dX7_whole_1 : decode cX7_whole 1 = .ok (.invokevirtual 77, 3) := by decide +kernel
theorem dX7_whole_4 : decode cX7_whole 4 = .ok (.ifCond .ne 5, 3) := by decide +kernel
theorem dX7_whole_7 : decode cX7_whole 7 = .ok (.iconst 0, 1) := by decide +kernel
theorem dX7_whole_8 : decode cX7_whole 8 = .ok (.ireturn, 1) := by decide +kernel
theorem dX7_whole_9 : decode cX7_whole 9 = .ok (.aload_n 0, 1) := by decide +kernel
theorem dX7_whole_10 : decode cX7_whole 10 = .ok (.invokevirtual 81, 3) := by decide +kernel
theorem dX7_whole_13 : decode cX7_whole 13 = .ok (.bipush 124, 2) := by decide +kernel
theorem dX7_whole_15 : decode cX7_whole 15 = .ok (.if_icmp .ne 32, 3) := by decide +kernel
theorem dX7_whole_18 : decode cX7_whole 18 = .ok (.aload_n 0, 1) := by decide +kernel
theorem dX7_whole_19 : decode cX7_whole 19 = .ok (.dup, 1) := by decide +kernel
theorem dX7_whole_20 : decode cX7_whole 20 = .ok (.getfield 67, 3) := by decide +kernel
theorem dX7_whole_23 : decode cX7_whole 23 = .ok (.iconst 1, 1) := by decide +kernel
theorem dX7_whole_24 : decode cX7_whole 24 = .ok (.iadd, 1) := by decide +kernel
theorem dX7_whole_25 : decode cX7_whole 25 = .ok (.putfield 67, 3) := by decide +kernel
theorem dX7_whole_28 : decode cX7_whole 28 = .ok (.aload_n 0, 1) := by decide +kernel
theorem dX7_whole_29 : decode cX7_whole 29 = .ok (.invokevirtual 77, 3) := by decide +kernel
theorem dX7_whole_32 : decode cX7_whole 32 = .ok (.ifCond .ne 5, 3) := by decide +kernel
theorem dX7_whole_35 : decode cX7_whole 35 = .ok (.iconst 0, 1) := by decide +kernel
theorem dX7_whole_36 : decode cX7_whole 36 = .ok (.ireturn, 1) := by decide +kernel
theorem dX7_whole_37 : decode cX7_whole 37 = .ok (.aload_n 0, 1) := by decide +kernel
theorem dX7_whole_38 : decode cX7_whole 38 = .ok (.iconst 3, 1) := by decide +kernel
theorem dX7_whole_39 : decode cX7_whole 39 = .ok (.bipush 124, 2) := by decide +kernel
theorem dX7_whole_41 : decode cX7_whole 41 = .ok (.invokevirtual 85, 3) := by decide +kernel
theorem dX7_whole_44 : decode cX7_whole 44 = .ok (.goto (-35), 3) := by decide +kernel
theorem dX7_whole_47 : decode cX7_whole 47 = .ok (.iconst 1, 1) := by decide +kernel
theorem dX7_whole_48 : decode cX7_whole 48 = .ok (.ireturn, 1) := by decide +kernel
theorem dX7_both_0 : decode cX7_both 0 = .ok (.aload_n 0, 1) := by decide +kernel
theorem dX7_both_1 : decode cX7_both 1 = .ok (.invokevirtual 89, 3) := by decide +kernel
theorem dX7_both_4 : decode cX7_both 4 = .ok (.ifCond .ne 5, 3) := by decide +kernel
theorem dX7_both_7 : decode cX7_both 7 = .ok (.iconst 0, 1) := by decide +kernel
theorem dX7_both_8 : decode cX7_both 8 = .ok (.ireturn, 1) := by decide +kernel
theorem dX7_both_9 : decode cX7_both 9 = .ok (.aload_n 0, 1) := by decide +kernel
theorem dX7_both_10 : decode cX7_both 10 = .ok (.invokevirtual 81, 3) := by decide +kernel
theorem dX7_both_13 : decode cX7_both 13 = .ok (.bipush 38, 2) := by decide +kernel
theorem dX7_both_15 : decode cX7_both 15 = .ok (.if_icmp .ne 32, 3) := by decide +kernel
theorem dX7_both_18 : decode cX7_both 18 = .ok (.aload_n 0, 1) := by decide +kernel
theorem dX7_both_19 : decode cX7_both 19 = .ok (.dup, 1) := by decide +kernel
theorem dX7_both_20 : decode cX7_both 20 = .ok (.getfield 67, 3) := by decide +kernel
theorem dX7_both_23 : decode cX7_both 23 = .ok (.iconst 1, 1) := by decide +kernel
theorem dX7_both_24 : decode cX7_both 24 = .ok (.iadd, 1) := by decide +kernel
theorem dX7_both_25 : decode cX7_both 25 = .ok (.putfield 67, 3) := by decide +kernel
theorem dX7_both_28 : decode cX7_both 28 = .ok (.aload_n 0, 1) := by decide +kernel
theorem dX7_both_29 : decode cX7_both 29 = .ok (.invokevirtual 89, 3) := by decide +kernel
theorem dX7_both_32 : decode cX7_both 32 = .ok (.ifCond .ne 5, 3) := by decide +kernel
theorem dX7_both_35 : decode cX7_both 35 = .ok (.iconst 0, 1) := by decide +kernel
theorem dX7_both_36 : decode cX7_both 36 = .ok (.ireturn, 1) := by decide +kernel
theorem dX7_both_37 : decode cX7_both 37 = .ok (.aload_n 0, 1) := by decide +kernel
theorem dX7_both_38 : decode cX7_both 38 = .ok (.iconst 3, 1) := by decide +kernel
theorem dX7_both_39 : decode cX7_both 39 = .ok (.bipush 38, 2) := by decide +kernel
theorem dX7_both_41 : decode cX7_both 41 = .ok (.invokevirtual 85, 3) := by decide +kernel
theorem dX7_both_44 : decode cX7_both 44 = .ok (.goto (-35), 3) := by decide +kernel
theorem dX7_both_47 : decode cX7_both 47 = .ok (.iconst 1, 1) := by decide +kernel
theorem dX7_both_48 : decode cX7_both 48 = .ok (.ireturn, 1) := by decide +kernel
theorem dX7_compared_0 : decode cX7_compared 0 = .ok (.aload_n 0, 1) := by decide +kernel
theorem dX7_compared_1 : decode cX7_compared 1 = .ok (.invokevirtual 92, 3) := by decide +kernel
theorem dX7_compared_4 : decode cX7_compared 4 = .ok (.ifCond .ne 5, 3) := by decide +kernel
theorem dX7_compared_7 : decode cX7_compared 7 = .ok (.iconst 0, 1) := by decide +kernel
theorem dX7_compared_8 : decode cX7_compared 8 = .ok (.ireturn, 1) := by decide +kernel
theorem dX7_compared_9 : decode cX7_compared 9 = .ok (.aload_n 0, 1) := by decide +kernel
theorem dX7_compared_10 : decode cX7_compared 10 = .ok (.invokevirtual 81, 3) := by decide +kernel
theorem dX7_compared_13 : decode cX7_compared 13 = .ok (.istore_n 1, 1) := by decide +kernel
theorem dX7_compared_14 : decode cX7_compared 14 = .ok (.iload_n 1, 1) := by decide +kernel
theorem dX7_compared_15 : decode cX7_compared 15 = .ok (.bipush 60, 2) := by decide +kernel
theorem dX7_compared_17 : decode cX7_compared 17 = .ok (.if_icmp .eq 17, 3) := by decide +kernel
theorem dX7_compared_20 : decode cX7_compared 20 = .ok (.iload_n 1, 1) := by decide +kernel
theorem dX7_compared_21 : decode cX7_compared 21 = .ok (.bipush 61, 2) := by decide +kernel
theorem dX7_compared_23 : decode cX7_compared 23 = .ok (.if_icmp .eq 11, 3) := by decide +kernel
theorem dX7_compared_26 : decode cX7_compared 26 = .ok (.iload_n 1, 1) := by decide +kernel
theorem dX7_compared_27 : decode cX7_compared 27 = .ok (.bipush 62, 2) := by decide +kernel
theorem dX7_compared_29 : decode cX7_compared 29 = .ok (.if_icmp .eq 5, 3) := by decide +kernel
theorem dX7_compared_32 : decode cX7_compared 32 = .ok (.iconst 1, 1) := by decide +kernel
theorem dX7_compared_33 : decode cX7_compared 33 = .ok (.ireturn, 1) := by decide +kernel
theorem dX7_compared_34 : decode cX7_compared 34 = .ok (.aload_n 0, 1) := by decide +kernel
theorem dX7_compared_35 : decode cX7_compared 35 = .ok (.dup, 1) := by decide +kernel
theorem dX7_compared_36 : decode cX7_compared 36 = .ok (.getfield 67, 3) := by decide +kernel
theorem dX7_compared_39 : decode cX7_compared 39 = .ok (.iconst 1, 1) := by decide +kernel
theorem dX7_compared_40 : decode cX7_compared 40 = .ok (.iadd, 1) := by decide +kernel
theorem dX7_compared_41 : decode cX7_compared 41 = .ok (.putfield 67, 3) := by decide +kernel
theorem dX7_compared_44 : decode cX7_compared 44 = .ok (.aload_n 0, 1) := by decide +kernel
theorem dX7_compared_45 : decode cX7_compared 45 = .ok (.invokevirtual 92, 3) := by decide +kernel
theorem dX7_compared_48 : decode cX7_compared 48 = .ok (.ifCond .ne 5, 3) := by decide +kernel
theorem dX7_compared_51 : decode cX7_compared 51 = .ok (.iconst 0, 1) := by decide +kernel
theorem dX7_compared_52 : decode cX7_compared 52 = .ok (.ireturn, 1) := by decide +kernel
theorem dX7_compared_53 : decode cX7_compared 53 = .ok (.aload_n 0, 1) := by decide +kernel
theorem dX7_compared_54 : decode cX7_compared 54 = .ok (.iconst 3, 1) := by decide +kernel
theorem dX7_compared_55 : decode cX7_compared 55 = .ok (.iload_n 1, 1) := by decide +kernel
theorem dX7_compared_56 : decode cX7_compared 56 = .ok (.invokevirtual 85, 3) := by decide +kernel
theorem dX7_compared_59 : decode cX7_compared 59 = .ok (.iconst 1, 1) := by decide +kernel
theorem dX7_compared_60 : decode cX7_compared 60 = .ok (.ireturn, 1) := by decide +kernel
theorem dX7_sum_0 : decode cX7_sum 0 = .ok (.aload_n 0, 1) := by decide +kernel
theorem dX7_sum_1 : decode cX7_sum 1 = .ok (.invokevirtual 95, 3) := by decide +kernel
theorem dX7_sum_4 : decode cX7_sum 4 = .ok (.ifCond .ne 5, 3) := by decide +kernel
theorem dX7_sum_7 : decode cX7_sum 7 = .ok (.iconst 0, 1) := by decide +kernel
theorem dX7_sum_8 : decode cX7_sum 8 = .ok (.ireturn, 1) := by decide +kernel
theorem dX7_sum_9 : decode cX7_sum 9 = .ok (.aload_n 0, 1) := by decide +kernel
theorem dX7_sum_10 : decode cX7_sum 10 = .ok (.invokevirtual 81, 3) := by decide +kernel
theorem dX7_sum_13 : decode cX7_sum 13 = .ok (.bipush 43, 2) := by decide +kernel
theorem dX7_sum_15 : decode cX7_sum 15 = .ok (.if_icmp .eq 12, 3) := by decide +kernel
theorem dX7_sum_18 : decode cX7_sum 18 = .ok (.aload_n 0, 1) := by decide +kernel
theorem dX7_sum_19 : decode cX7_sum 19 = .ok (.invokevirtual 81, 3) := by decide +kernel
theorem dX7_sum_22 : decode cX7_sum 22 = .ok (.bipush 45, 2) := by decide +kernel
theorem dX7_sum_24 : decode cX7_sum 24 = .ok (.if_icmp .ne 36, 3) := by decide +kernel
theorem dX7_sum_27 : decode cX7_sum 27 = .ok (.aload_n 0, 1) := by decide +kernel
theorem dX7_sum_28 : decode cX7_sum 28 = .ok (.invokevirtual 81, 3) := by decide +kernel
theorem dX7_sum_31 : decode cX7_sum 31 = .ok (.istore_n 1, 1) := by decide +kernel
theorem dX7_sum_32 : decode cX7_sum 32 = .ok (.aload_n 0, 1) := by decide +kernel
theorem dX7_sum_33 : decode cX7_sum 33 = .ok (.dup, 1) := by decide +kernel
theorem dX7_sum_34 : decode cX7_sum 34 = .ok (.getfield 67, 3) := by decide +kernel
theorem dX7_sum_37 : decode cX7_sum 37 = .ok (.iconst 1, 1) := by decide +kernel
theorem dX7_sum_38 : decode cX7_sum 38 = .ok (.iadd, 1) := by decide +kernel
theorem dX7_sum_39 : decode cX7_sum 39 = .ok (.putfield 67, 3) := by decide +kernel
theorem dX7_sum_42 : decode cX7_sum 42 = .ok (.aload_n 0, 1) := by decide +kernel
theorem dX7_sum_43 : decode cX7_sum 43 = .ok (.invokevirtual 95, 3) := by decide +kernel
theorem dX7_sum_46 : decode cX7_sum 46 = .ok (.ifCond .ne 5, 3) := by decide +kernel
theorem dX7_sum_49 : decode cX7_sum 49 = .ok (.iconst 0, 1) := by decide +kernel
theorem dX7_sum_50 : decode cX7_sum 50 = .ok (.ireturn, 1) := by decide +kernel
theorem dX7_sum_51 : decode cX7_sum 51 = .ok (.aload_n 0, 1) := by decide +kernel
theorem dX7_sum_52 : decode cX7_sum 52 = .ok (.iconst 3, 1) := by decide +kernel
theorem dX7_sum_53 : decode cX7_sum 53 = .ok (.iload_n 1, 1) := by decide +kernel
theorem dX7_sum_54 : decode cX7_sum 54 = .ok (.invokevirtual 85, 3) := by decide +kernel
theorem dX7_sum_57 : decode cX7_sum 57 = .ok (.goto (-48), 3) := by decide +kernel
theorem dX7_sum_60 : decode cX7_sum 60 = .ok (.iconst 1, 1) := by decide +kernel
theorem dX7_sum_61 : decode cX7_sum 61 = .ok (.ireturn, 1) := by decide +kernel
theorem dX7_product_0 : decode cX7_product 0 = .ok (.aload_n 0, 1) := by decide +kernel
theorem dX7_product_1 : decode cX7_product 1 = .ok (.invokevirtual 98, 3) := by decide +kernel
theorem dX7_product_4 : decode cX7_product 4 = .ok (.ifCond .ne 5, 3) := by decide +kernel
theorem dX7_product_7 : decode cX7_product 7 = .ok (.iconst 0, 1) := by decide +kernel
theorem dX7_product_8 : decode cX7_product 8 = .ok (.ireturn, 1) := by decide +kernel
theorem dX7_product_9 : decode cX7_product 9 = .ok (.aload_n 0, 1) := by decide +kernel
theorem dX7_product_10 : decode cX7_product 10 = .ok (.invokevirtual 81, 3) := by decide +kernel
theorem dX7_product_13 : decode cX7_product 13 = .ok (.bipush 42, 2) := by decide +kernel
theorem dX7_product_15 : decode cX7_product 15 = .ok (.if_icmp .eq 21, 3) := by decide +kernel
theorem dX7_product_18 : decode cX7_product 18 = .ok (.aload_n 0, 1) := by decide +kernel
theorem dX7_product_19 : decode cX7_product 19 = .ok (.invokevirtual 81, 3) := by decide +kernel
theorem dX7_product_22 : decode cX7_product 22 = .ok (.bipush 47, 2) := by decide +kernel
theorem dX7_product_24 : decode cX7_product 24 = .ok (.if_icmp .eq 12, 3) := by decide +kernel
theorem dX7_product_27 : decode cX7_product 27 = .ok (.aload_n 0, 1) := by decide +kernel
theorem dX7_product_28 : decode cX7_product 28 = .ok (.invokevirtual 81, 3) := by decide +kernel
theorem dX7_product_31 : decode cX7_product 31 = .ok (.bipush 37, 2) := by decide +kernel
theorem dX7_product_33 : decode cX7_product 33 = .ok (.if_icmp .ne 36, 3) := by decide +kernel
theorem dX7_product_36 : decode cX7_product 36 = .ok (.aload_n 0, 1) := by decide +kernel
theorem dX7_product_37 : decode cX7_product 37 = .ok (.invokevirtual 81, 3) := by decide +kernel
theorem dX7_product_40 : decode cX7_product 40 = .ok (.istore_n 1, 1) := by decide +kernel
theorem dX7_product_41 : decode cX7_product 41 = .ok (.aload_n 0, 1) := by decide +kernel
theorem dX7_product_42 : decode cX7_product 42 = .ok (.dup, 1) := by decide +kernel
theorem dX7_product_43 : decode cX7_product 43 = .ok (.getfield 67, 3) := by decide +kernel
theorem dX7_product_46 : decode cX7_product 46 = .ok (.iconst 1, 1) := by decide +kernel
theorem dX7_product_47 : decode cX7_product 47 = .ok (.iadd, 1) := by decide +kernel
theorem dX7_product_48 : decode cX7_product 48 = .ok (.putfield 67, 3) := by decide +kernel
theorem dX7_product_51 : decode cX7_product 51 = .ok (.aload_n 0, 1) := by decide +kernel
theorem dX7_product_52 : decode cX7_product 52 = .ok (.invokevirtual 98, 3) := by decide +kernel
theorem dX7_product_55 : decode cX7_product 55 = .ok (.ifCond .ne 5, 3) := by decide +kernel
theorem dX7_product_58 : decode cX7_product 58 = .ok (.iconst 0, 1) := by decide +kernel
theorem dX7_product_59 : decode cX7_product 59 = .ok (.ireturn, 1) := by decide +kernel
theorem dX7_product_60 : decode cX7_product 60 = .ok (.aload_n 0, 1) := by decide +kernel
theorem dX7_product_61 : decode cX7_product 61 = .ok (.iconst 3, 1) := by decide +kernel
theorem dX7_product_62 : decode cX7_product 62 = .ok (.iload_n 1, 1) := by decide +kernel
theorem dX7_product_63 : decode cX7_product 63 = .ok (.invokevirtual 85, 3) := by decide +kernel
theorem dX7_product_66 : decode cX7_product 66 = .ok (.goto (-57), 3) := by decide +kernel
theorem dX7_product_69 : decode cX7_product 69 = .ok (.iconst 1, 1) := by decide +kernel
theorem dX7_product_70 : decode cX7_product 70 = .ok (.ireturn, 1) := by decide +kernel
theorem dX7_opens_0 : decode cX7_opens 0 = .ok (.aload_n 0, 1) := by decide +kernel
theorem dX7_opens_1 : decode cX7_opens 1 = .ok (.getfield 101, 3) := by decide +kernel
theorem dX7_opens_4 : decode cX7_opens 4 = .ok (.iconst 5, 1) := by decide +kernel
theorem dX7_opens_5 : decode cX7_opens 5 = .ok (.if_icmp .ne 5, 3) := by decide +kernel
theorem dX7_opens_8 : decode cX7_opens 8 = .ok (.iconst 0, 1) := by decide +kernel
theorem dX7_opens_9 : decode cX7_opens 9 = .ok (.ireturn, 1) := by decide +kernel
theorem dX7_opens_10 : decode cX7_opens 10 = .ok (.aload_n 0, 1) := by decide +kernel
theorem dX7_opens_11 : decode cX7_opens 11 = .ok (.dup, 1) := by decide +kernel
theorem dX7_opens_12 : decode cX7_opens 12 = .ok (.getfield 101, 3) := by decide +kernel
theorem dX7_opens_15 : decode cX7_opens 15 = .ok (.iconst 1, 1) := by decide +kernel
theorem dX7_opens_16 : decode cX7_opens 16 = .ok (.iadd, 1) := by decide +kernel
theorem dX7_opens_17 : decode cX7_opens 17 = .ok (.putfield 101, 3) := by decide +kernel
theorem dX7_opens_20 : decode cX7_opens 20 = .ok (.aload_n 0, 1) := by decide +kernel
theorem dX7_opens_21 : decode cX7_opens 21 = .ok (.dup, 1) := by decide +kernel
theorem dX7_opens_22 : decode cX7_opens 22 = .ok (.getfield 67, 3) := by decide +kernel
theorem dX7_opens_25 : decode cX7_opens 25 = .ok (.iconst 1, 1) := by decide +kernel
theorem dX7_opens_26 : decode cX7_opens 26 = .ok (.iadd, 1) := by decide +kernel
theorem dX7_opens_27 : decode cX7_opens 27 = .ok (.putfield 67, 3) := by decide +kernel
theorem dX7_opens_30 : decode cX7_opens 30 = .ok (.iconst 1, 1) := by decide +kernel
theorem dX7_opens_31 : decode cX7_opens 31 = .ok (.ireturn, 1) := by decide +kernel
theorem dX7_one_0 : decode cX7_one 0 = .ok (.aload_n 0, 1) := by decide +kernel
theorem dX7_one_1 : decode cX7_one 1 = .ok (.invokevirtual 81, 3) := by decide +kernel
theorem dX7_one_4 : decode cX7_one 4 = .ok (.istore_n 1, 1) := by decide +kernel
theorem dX7_one_5 : decode cX7_one 5 = .ok (.aload_n 0, 1) := by decide +kernel
theorem dX7_one_6 : decode cX7_one 6 = .ok (.iload_n 1, 1) := by decide +kernel
theorem dX7_one_7 : decode cX7_one 7 = .ok (.invokevirtual 104, 3) := by decide +kernel
theorem dX7_one_10 : decode cX7_one 10 = .ok (.ifCond .eq 21, 3) := by decide +kernel
theorem dX7_one_13 : decode cX7_one 13 = .ok (.aload_n 0, 1) := by decide +kernel
theorem dX7_one_14 : decode cX7_one 14 = .ok (.dup, 1) := by decide +kernel
theorem dX7_one_15 : decode cX7_one 15 = .ok (.getfield 67, 3) := by decide +kernel
theorem dX7_one_18 : decode cX7_one 18 = .ok (.iconst 1, 1) := by decide +kernel
theorem dX7_one_19 : decode cX7_one 19 = .ok (.iadd, 1) := by decide +kernel
theorem dX7_one_20 : decode cX7_one 20 = .ok (.putfield 67, 3) := by decide +kernel
theorem dX7_one_23 : decode cX7_one 23 = .ok (.aload_n 0, 1) := by decide +kernel
theorem dX7_one_24 : decode cX7_one 24 = .ok (.iconst 1, 1) := by decide +kernel
theorem dX7_one_25 : decode cX7_one 25 = .ok (.iload_n 1, 1) := by decide +kernel
theorem dX7_one_26 : decode cX7_one 26 = .ok (.invokevirtual 85, 3) := by decide +kernel
theorem dX7_one_29 : decode cX7_one 29 = .ok (.iconst 1, 1) := by decide +kernel
theorem dX7_one_30 : decode cX7_one 30 = .ok (.ireturn, 1) := by decide +kernel
theorem dX7_one_31 : decode cX7_one 31 = .ok (.iload_n 1, 1) := by decide +kernel
theorem dX7_one_32 : decode cX7_one 32 = .ok (.bipush 48, 2) := by decide +kernel
theorem dX7_one_34 : decode cX7_one 34 = .ok (.bipush 57, 2) := by decide +kernel
theorem dX7_one_36 : decode cX7_one 36 = .ok (.invokestatic 53, 3) := by decide +kernel
theorem dX7_one_39 : decode cX7_one 39 = .ok (.ifCond .eq 63, 3) := by decide +kernel
theorem dX7_one_42 : decode cX7_one 42 = .ok (.iconst 0, 1) := by decide +kernel
theorem dX7_one_43 : decode cX7_one 43 = .ok (.istore_n 2, 1) := by decide +kernel
theorem dX7_one_44 : decode cX7_one 44 = .ok (.iconst 0, 1) := by decide +kernel
theorem dX7_one_45 : decode cX7_one 45 = .ok (.istore_n 3, 1) := by decide +kernel
theorem dX7_one_46 : decode cX7_one 46 = .ok (.iload_n 3, 1) := by decide +kernel
theorem dX7_one_47 : decode cX7_one 47 = .ok (.iconst 4, 1) := by decide +kernel
theorem dX7_one_48 : decode cX7_one 48 = .ok (.if_icmp .ge 46, 3) := by decide +kernel
theorem dX7_one_51 : decode cX7_one 51 = .ok (.aload_n 0, 1) := by decide +kernel
theorem dX7_one_52 : decode cX7_one 52 = .ok (.invokevirtual 81, 3) := by decide +kernel
theorem dX7_one_55 : decode cX7_one 55 = .ok (.bipush 48, 2) := by decide +kernel
theorem dX7_one_57 : decode cX7_one 57 = .ok (.bipush 57, 2) := by decide +kernel
theorem dX7_one_59 : decode cX7_one 59 = .ok (.invokestatic 53, 3) := by decide +kernel
theorem dX7_one_62 : decode cX7_one 62 = .ok (.ifCond .eq 32, 3) := by decide +kernel
theorem dX7_one_65 : decode cX7_one 65 = .ok (.bipush 10, 2) := by decide +kernel
theorem dX7_one_67 : decode cX7_one 67 = .ok (.iload_n 2, 1) := by decide +kernel
theorem dX7_one_68 : decode cX7_one 68 = .ok (.imul, 1) := by decide +kernel
theorem dX7_one_69 : decode cX7_one 69 = .ok (.aload_n 0, 1) := by decide +kernel
theorem dX7_one_70 : decode cX7_one 70 = .ok (.invokevirtual 81, 3) := by decide +kernel
theorem dX7_one_73 : decode cX7_one 73 = .ok (.iadd, 1) := by decide +kernel
theorem dX7_one_74 : decode cX7_one 74 = .ok (.bipush 48, 2) := by decide +kernel
theorem dX7_one_76 : decode cX7_one 76 = .ok (.isub, 1) := by decide +kernel
theorem dX7_one_77 : decode cX7_one 77 = .ok (.istore_n 2, 1) := by decide +kernel
theorem dX7_one_78 : decode cX7_one 78 = .ok (.aload_n 0, 1) := by decide +kernel
theorem dX7_one_79 : decode cX7_one 79 = .ok (.dup, 1) := by decide +kernel
theorem dX7_one_80 : decode cX7_one 80 = .ok (.getfield 67, 3) := by decide +kernel
theorem dX7_one_83 : decode cX7_one 83 = .ok (.iconst 1, 1) := by decide +kernel
theorem dX7_one_84 : decode cX7_one 84 = .ok (.iadd, 1) := by decide +kernel
theorem dX7_one_85 : decode cX7_one 85 = .ok (.putfield 67, 3) := by decide +kernel
theorem dX7_one_88 : decode cX7_one 88 = .ok (.iinc 3 1, 3) := by decide +kernel
theorem dX7_one_91 : decode cX7_one 91 = .ok (.goto (-45), 3) := by decide +kernel
theorem dX7_one_94 : decode cX7_one 94 = .ok (.aload_n 0, 1) := by decide +kernel
theorem dX7_one_95 : decode cX7_one 95 = .ok (.iconst 0, 1) := by decide +kernel
theorem dX7_one_96 : decode cX7_one 96 = .ok (.iload_n 2, 1) := by decide +kernel
theorem dX7_one_97 : decode cX7_one 97 = .ok (.invokevirtual 85, 3) := by decide +kernel
theorem dX7_one_100 : decode cX7_one 100 = .ok (.iconst 1, 1) := by decide +kernel
theorem dX7_one_101 : decode cX7_one 101 = .ok (.ireturn, 1) := by decide +kernel
theorem dX7_one_102 : decode cX7_one 102 = .ok (.iload_n 1, 1) := by decide +kernel
theorem dX7_one_103 : decode cX7_one 103 = .ok (.bipush 33, 2) := by decide +kernel
theorem dX7_one_105 : decode cX7_one 105 = .ok (.if_icmp .ne 37, 3) := by decide +kernel
theorem dX7_one_108 : decode cX7_one 108 = .ok (.aload_n 0, 1) := by decide +kernel
theorem dX7_one_109 : decode cX7_one 109 = .ok (.invokevirtual 107, 3) := by decide +kernel
theorem dX7_one_112 : decode cX7_one 112 = .ok (.ifCond .eq 10, 3) := by decide +kernel
theorem dX7_one_115 : decode cX7_one 115 = .ok (.aload_n 0, 1) := by decide +kernel
theorem dX7_one_116 : decode cX7_one 116 = .ok (.invokevirtual 98, 3) := by decide +kernel
theorem dX7_one_119 : decode cX7_one 119 = .ok (.ifCond .ne 5, 3) := by decide +kernel
theorem dX7_one_122 : decode cX7_one 122 = .ok (.iconst 0, 1) := by decide +kernel
theorem dX7_one_123 : decode cX7_one 123 = .ok (.ireturn, 1) := by decide +kernel
theorem dX7_one_124 : decode cX7_one 124 = .ok (.aload_n 0, 1) := by decide +kernel
theorem dX7_one_125 : decode cX7_one 125 = .ok (.dup, 1) := by decide +kernel
theorem dX7_one_126 : decode cX7_one 126 = .ok (.getfield 101, 3) := by decide +kernel
theorem dX7_one_129 : decode cX7_one 129 = .ok (.iconst 1, 1) := by decide +kernel
theorem dX7_one_130 : decode cX7_one 130 = .ok (.isub, 1) := by decide +kernel
theorem dX7_one_131 : decode cX7_one 131 = .ok (.putfield 101, 3) := by decide +kernel
theorem dX7_one_134 : decode cX7_one 134 = .ok (.aload_n 0, 1) := by decide +kernel
theorem dX7_one_135 : decode cX7_one 135 = .ok (.iconst 2, 1) := by decide +kernel
theorem dX7_one_136 : decode cX7_one 136 = .ok (.iconst 0, 1) := by decide +kernel
theorem dX7_one_137 : decode cX7_one 137 = .ok (.invokevirtual 85, 3) := by decide +kernel
theorem dX7_one_140 : decode cX7_one 140 = .ok (.iconst 1, 1) := by decide +kernel
theorem dX7_one_141 : decode cX7_one 141 = .ok (.ireturn, 1) := by decide +kernel
theorem dX7_one_142 : decode cX7_one 142 = .ok (.iload_n 1, 1) := by decide +kernel
theorem dX7_one_143 : decode cX7_one 143 = .ok (.bipush 40, 2) := by decide +kernel
theorem dX7_one_145 : decode cX7_one 145 = .ok (.if_icmp .ne 26, 3) := by decide +kernel
theorem dX7_one_148 : decode cX7_one 148 = .ok (.aload_n 0, 1) := by decide +kernel
theorem dX7_one_149 : decode cX7_one 149 = .ok (.invokevirtual 107, 3) := by decide +kernel
theorem dX7_one_152 : decode cX7_one 152 = .ok (.ifCond .eq 19, 3) := by decide +kernel
theorem dX7_one_155 : decode cX7_one 155 = .ok (.aload_n 0, 1) := by decide +kernel
theorem dX7_one_156 : decode cX7_one 156 = .ok (.invokevirtual 110, 3) := by decide +kernel
theorem dX7_one_159 : decode cX7_one 159 = .ok (.ifCond .eq 12, 3) := by decide +kernel
theorem dX7_one_162 : decode cX7_one 162 = .ok (.aload_n 0, 1) := by decide +kernel
theorem dX7_one_163 : decode cX7_one 163 = .ok (.invokevirtual 81, 3) := by decide +kernel
theorem dX7_one_166 : decode cX7_one 166 = .ok (.bipush 41, 2) := by decide +kernel
theorem dX7_one_168 : decode cX7_one 168 = .ok (.if_icmp .eq 5, 3) := by decide +kernel
theorem dX7_one_171 : decode cX7_one 171 = .ok (.iconst 0, 1) := by decide +kernel
theorem dX7_one_172 : decode cX7_one 172 = .ok (.ireturn, 1) := by decide +kernel
theorem dX7_one_173 : decode cX7_one 173 = .ok (.aload_n 0, 1) := by decide +kernel
theorem dX7_one_174 : decode cX7_one 174 = .ok (.dup, 1) := by decide +kernel
theorem dX7_one_175 : decode cX7_one 175 = .ok (.getfield 67, 3) := by decide +kernel
theorem dX7_one_178 : decode cX7_one 178 = .ok (.iconst 1, 1) := by decide +kernel
theorem dX7_one_179 : decode cX7_one 179 = .ok (.iadd, 1) := by decide +kernel
theorem dX7_one_180 : decode cX7_one 180 = .ok (.putfield 67, 3) := by decide +kernel
theorem dX7_one_183 : decode cX7_one 183 = .ok (.aload_n 0, 1) := by decide +kernel
theorem dX7_one_184 : decode cX7_one 184 = .ok (.dup, 1) := by decide +kernel
theorem dX7_one_185 : decode cX7_one 185 = .ok (.getfield 101, 3) := by decide +kernel
theorem dX7_one_188 : decode cX7_one 188 = .ok (.iconst 1, 1) := by decide +kernel
theorem dX7_one_189 : decode cX7_one 189 = .ok (.isub, 1) := by decide +kernel
theorem dX7_one_190 : decode cX7_one 190 = .ok (.putfield 101, 3) := by decide +kernel
theorem dX7_one_193 : decode cX7_one 193 = .ok (.iconst 1, 1) := by decide +kernel
theorem dX7_one_194 : decode cX7_one 194 = .ok (.ireturn, 1) := by decide +kernel
theorem dX7_hasText_0 : decode cX7_hasText 0 = .ok (.aload_n 0, 1) := by decide +kernel
theorem dX7_hasText_1 : decode cX7_hasText 1 = .ok (.getfield 7, 3) := by decide +kernel
theorem dX7_hasText_4 : decode cX7_hasText 4 = .ok (.bipush 48, 2) := by decide +kernel
theorem dX7_hasText_6 : decode cX7_hasText 6 = .ok (.bipush 125, 2) := by decide +kernel
theorem dX7_hasText_8 : decode cX7_hasText 8 = .ok (.iload_n 1, 1) := by decide +kernel
theorem dX7_hasText_9 : decode cX7_hasText 9 = .ok (.imul, 1) := by decide +kernel
theorem dX7_hasText_10 : decode cX7_hasText 10 = .ok (.iadd, 1) := by decide +kernel
theorem dX7_hasText_11 : decode cX7_hasText 11 = .ok (.iaload, 1) := by decide +kernel
theorem dX7_hasText_12 : decode cX7_hasText 12 = .ok (.ifCond .le 7, 3) := by decide +kernel
theorem dX7_hasText_15 : decode cX7_hasText 15 = .ok (.iconst 1, 1) := by decide +kernel
theorem dX7_hasText_16 : decode cX7_hasText 16 = .ok (.goto 4, 3) := by decide +kernel
theorem dX7_hasText_19 : decode cX7_hasText 19 = .ok (.iconst 0, 1) := by decide +kernel
theorem dX7_hasText_20 : decode cX7_hasText 20 = .ok (.ireturn, 1) := by decide +kernel
theorem dX7_text_0 : decode cX7_text 0 = .ok (.iload_n 1, 1) := by decide +kernel
theorem dX7_text_1 : decode cX7_text 1 = .ok (.iconst 0, 1) := by decide +kernel
theorem dX7_text_2 : decode cX7_text 2 = .ok (.iconst 1, 1) := by decide +kernel
theorem dX7_text_3 : decode cX7_text 3 = .ok (.invokestatic 53, 3) := by decide +kernel
theorem dX7_text_6 : decode cX7_text 6 = .ok (.ifCond .ne 9, 3) := by decide +kernel
theorem dX7_text_9 : decode cX7_text 9 = .ok (.aload_n 0, 1) := by decide +kernel
theorem dX7_text_10 : decode cX7_text 10 = .ok (.iconst 1, 1) := by decide +kernel
theorem dX7_text_11 : decode cX7_text 11 = .ok (.invokevirtual 61, 3) := by decide +kernel
theorem dX7_text_14 : decode cX7_text 14 = .ok (.ireturn, 1) := by decide +kernel
theorem dX7_text_15 : decode cX7_text 15 = .ok (.aload_n 0, 1) := by decide +kernel
theorem dX7_text_16 : decode cX7_text 16 = .ok (.iload_n 1, 1) := by decide +kernel
theorem dX7_text_17 : decode cX7_text 17 = .ok (.putfield 71, 3) := by decide +kernel
theorem dX7_text_20 : decode cX7_text 20 = .ok (.aload_n 0, 1) := by decide +kernel
theorem dX7_text_21 : decode cX7_text 21 = .ok (.iconst 0, 1) := by decide +kernel
theorem dX7_text_22 : decode cX7_text 22 = .ok (.putfield 67, 3) := by decide +kernel
theorem dX7_text_25 : decode cX7_text 25 = .ok (.aload_n 0, 1) := by decide +kernel
theorem dX7_text_26 : decode cX7_text 26 = .ok (.iconst 0, 1) := by decide +kernel
theorem dX7_text_27 : decode cX7_text 27 = .ok (.putfield 101, 3) := by decide +kernel
theorem dX7_text_30 : decode cX7_text 30 = .ok (.aload_n 0, 1) := by decide +kernel
theorem dX7_text_31 : decode cX7_text 31 = .ok (.iconst 0, 1) := by decide +kernel
theorem dX7_text_32 : decode cX7_text 32 = .ok (.putfield 74, 3) := by decide +kernel
theorem dX7_text_35 : decode cX7_text 35 = .ok (.aload_n 0, 1) := by decide +kernel
theorem dX7_text_36 : decode cX7_text 36 = .ok (.invokevirtual 110, 3) := by decide +kernel
theorem dX7_text_39 : decode cX7_text 39 = .ok (.ifCond .eq 20, 3) := by decide +kernel
theorem dX7_text_42 : decode cX7_text 42 = .ok (.aload_n 0, 1) := by decide +kernel
theorem dX7_text_43 : decode cX7_text 43 = .ok (.getfield 67, 3) := by decide +kernel
theorem dX7_text_46 : decode cX7_text 46 = .ok (.aload_n 0, 1) := by decide +kernel
theorem dX7_text_47 : decode cX7_text 47 = .ok (.getfield 7, 3) := by decide +kernel
theorem dX7_text_50 : decode cX7_text 50 = .ok (.iconst 2, 1) := by decide +kernel
theorem dX7_text_51 : decode cX7_text 51 = .ok (.iaload, 1) := by decide +kernel
theorem dX7_text_52 : decode cX7_text 52 = .ok (.if_icmp .ne 7, 3) := by decide +kernel
theorem dX7_text_55 : decode cX7_text 55 = .ok (.iconst 1, 1) := by decide +kernel
theorem dX7_text_56 : decode cX7_text 56 = .ok (.goto 4, 3) := by decide +kernel
theorem dX7_text_59 : decode cX7_text 59 = .ok (.iconst 0, 1) := by decide +kernel
theorem dX7_text_60 : decode cX7_text 60 = .ok (.istore_n 2, 1) := by decide +kernel
theorem dX7_text_61 : decode cX7_text 61 = .ok (.aload_n 0, 1) := by decide +kernel
theorem dX7_text_62 : decode cX7_text 62 = .ok (.getfield 7, 3) := by decide +kernel
theorem dX7_text_65 : decode cX7_text 65 = .ok (.iconst 2, 1) := by decide +kernel
theorem dX7_text_66 : decode cX7_text 66 = .ok (.iconst 0, 1) := by decide +kernel
theorem dX7_text_67 : decode cX7_text 67 = .ok (.iastore, 1) := by decide +kernel
theorem dX7_text_68 : decode cX7_text 68 = .ok (.iload_n 2, 1) := by decide +kernel
theorem dX7_text_69 : decode cX7_text 69 = .ok (.ifCond .ne 11, 3) := by decide +kernel
theorem dX7_text_72 : decode cX7_text 72 = .ok (.bipush (-10), 2) := by decide +kernel
theorem dX7_text_74 : decode cX7_text 74 = .ok (.aload_n 0, 1) := by decide +kernel
theorem dX7_text_75 : decode cX7_text 75 = .ok (.getfield 67, 3) := by decide +kernel
theorem dX7_text_78 : decode cX7_text 78 = .ok (.isub, 1) := by decide +kernel
theorem dX7_text_79 : decode cX7_text 79 = .ok (.ireturn, 1) := by decide +kernel
theorem dX7_text_80 : decode cX7_text 80 = .ok (.bipush 48, 2) := by decide +kernel
theorem dX7_text_82 : decode cX7_text 82 = .ok (.bipush 125, 2) := by decide +kernel
theorem dX7_text_84 : decode cX7_text 84 = .ok (.iload_n 1, 1) := by decide +kernel
theorem dX7_text_85 : decode cX7_text 85 = .ok (.imul, 1) := by decide +kernel
theorem dX7_text_86 : decode cX7_text 86 = .ok (.iadd, 1) := by decide +kernel
theorem dX7_text_87 : decode cX7_text 87 = .ok (.istore_n 3, 1) := by decide +kernel
theorem dX7_text_88 : decode cX7_text 88 = .ok (.aload_n 0, 1) := by decide +kernel
theorem dX7_text_89 : decode cX7_text 89 = .ok (.getfield 7, 3) := by decide +kernel
theorem dX7_text_92 : decode cX7_text 92 = .ok (.iload_n 3, 1) := by decide +kernel
theorem dX7_text_93 : decode cX7_text 93 = .ok (.aload_n 0, 1) := by decide +kernel
theorem dX7_text_94 : decode cX7_text 94 = .ok (.getfield 74, 3) := by decide +kernel
theorem dX7_text_97 : decode cX7_text 97 = .ok (.iastore, 1) := by decide +kernel
theorem dX7_text_98 : decode cX7_text 98 = .ok (.iconst 0, 1) := by decide +kernel
theorem dX7_text_99 : decode cX7_text 99 = .ok (.istore 4, 2) := by decide +kernel
theorem dX7_text_101 : decode cX7_text 101 = .ok (.iload 4, 2) := by decide +kernel
theorem dX7_text_103 : decode cX7_text 103 = .ok (.iconst 2, 1) := by decide +kernel
theorem dX7_text_104 : decode cX7_text 104 = .ok (.aload_n 0, 1) := by decide +kernel
theorem dX7_text_105 : decode cX7_text 105 = .ok (.getfield 74, 3) := by decide +kernel
theorem dX7_text_108 : decode cX7_text 108 = .ok (.imul, 1) := by decide +kernel
theorem dX7_text_109 : decode cX7_text 109 = .ok (.if_icmp .ge 27, 3) := by decide +kernel
theorem dX7_text_112 : decode cX7_text 112 = .ok (.aload_n 0, 1) := by decide +kernel
theorem dX7_text_113 : decode cX7_text 113 = .ok (.getfield 7, 3) := by decide +kernel
theorem dX7_text_116 : decode cX7_text 116 = .ok (.iload_n 3, 1) := by decide +kernel
theorem dX7_text_117 : decode cX7_text 117 = .ok (.iconst 1, 1) := by decide +kernel
theorem dX7_text_118 : decode cX7_text 118 = .ok (.iadd, 1) := by decide +kernel
theorem dX7_text_119 : decode cX7_text 119 = .ok (.iload 4, 2) := by decide +kernel
theorem dX7_text_121 : decode cX7_text 121 = .ok (.iadd, 1) := by decide +kernel
theorem dX7_text_122 : decode cX7_text 122 = .ok (.aload_n 0, 1) := by decide +kernel
theorem dX7_text_123 : decode cX7_text 123 = .ok (.getfield 22, 3) := by decide +kernel
theorem dX7_text_126 : decode cX7_text 126 = .ok (.iload 4, 2) := by decide +kernel
theorem dX7_text_128 : decode cX7_text 128 = .ok (.iaload, 1) := by decide +kernel
theorem dX7_text_129 : decode cX7_text 129 = .ok (.iastore, 1) := by decide +kernel
theorem dX7_text_130 : decode cX7_text 130 = .ok (.iinc 4 1, 3) := by decide +kernel
theorem dX7_text_133 : decode cX7_text 133 = .ok (.goto (-32), 3) := by decide +kernel
theorem dX7_text_136 : decode cX7_text 136 = .ok (.iconst 1, 1) := by decide +kernel
theorem dX7_text_137 : decode cX7_text 137 = .ok (.ireturn, 1) := by decide +kernel
theorem dX7_untell_0 : decode cX7_untell 0 = .ok (.iload_n 1, 1) := by decide +kernel
theorem dX7_untell_1 : decode cX7_untell 1 = .ok (.iconst 0, 1) := by decide +kernel
theorem dX7_untell_2 : decode cX7_untell 2 = .ok (.iconst 1, 1) := by decide +kernel
theorem dX7_untell_3 : decode cX7_untell 3 = .ok (.invokestatic 53, 3) := by decide +kernel
theorem dX7_untell_6 : decode cX7_untell 6 = .ok (.ifCond .ne 9, 3) := by decide +kernel
theorem dX7_untell_9 : decode cX7_untell 9 = .ok (.aload_n 0, 1) := by decide +kernel
theorem dX7_untell_10 : decode cX7_untell 10 = .ok (.iconst 1, 1) := by decide +kernel
theorem dX7_untell_11 : decode cX7_untell 11 = .ok (.invokevirtual 61, 3) := by decide +kernel
theorem dX7_untell_14 : decode cX7_untell 14 = .ok (.ireturn, 1) := by decide +kernel
theorem dX7_untell_15 : decode cX7_untell 15 = .ok (.aload_n 0, 1) := by decide +kernel
theorem dX7_untell_16 : decode cX7_untell 16 = .ok (.iload_n 1, 1) := by decide +kernel
theorem dX7_untell_17 : decode cX7_untell 17 = .ok (.invokevirtual 113, 3) := by decide +kernel
end
section
theorem dX7_untell_20 : decode cX7_untell 20 = .ok (.ifCond .eq 7, 3) := by decide +kernel
theorem dX7_untell_23 : decode cX7_untell 23 = .ok (.iconst 1, 1) := by decide +kernel
theorem dX7_untell_24 : decode cX7_untell 24 = .ok (.goto 4, 3) := by decide +kernel
theorem dX7_untell_27 : decode cX7_untell 27 = .ok (.iconst 0, 1) := by decide +kernel
theorem dX7_untell_28 : decode cX7_untell 28 = .ok (.istore_n 2, 1) := by decide +kernel
theorem dX7_untell_29 : decode cX7_untell 29 = .ok (.aload_n 0, 1) := by decide +kernel
theorem dX7_untell_30 : decode cX7_untell 30 = .ok (.getfield 7, 3) := by decide +kernel
theorem dX7_untell_33 : decode cX7_untell 33 = .ok (.bipush 48, 2) := by decide +kernel
theorem dX7_untell_35 : decode cX7_untell 35 = .ok (.bipush 125, 2) := by decide +kernel
theorem dX7_untell_37 : decode cX7_untell 37 = .ok (.iload_n 1, 1) := by decide +kernel
theorem dX7_untell_38 : decode cX7_untell 38 = .ok (.imul, 1) := by decide +kernel
theorem dX7_untell_39 : decode cX7_untell 39 = .ok (.iadd, 1) := by decide +kernel
theorem dX7_untell_40 : decode cX7_untell 40 = .ok (.iconst 0, 1) := by decide +kernel
theorem dX7_untell_41 : decode cX7_untell 41 = .ok (.iastore, 1) := by decide +kernel
theorem dX7_untell_42 : decode cX7_untell 42 = .ok (.iload_n 2, 1) := by decide +kernel
theorem dX7_untell_43 : decode cX7_untell 43 = .ok (.ireturn, 1) := by decide +kernel
theorem dX7_joined_0 : decode cX7_joined 0 = .ok (.iload_n 0, 1) := by decide +kernel
theorem dX7_joined_1 : decode cX7_joined 1 = .ok (.tableswitch 217 37 62 #[153, 203, 217, 217, 217, 127, 119, 217, 123, 217, 131, 217, 217, 217, 217, 217, 217, 217, 217, 217, 217, 217, 217, 170, 192, 181], 119) := by decide +kernel
theorem dX7_joined_120 : decode cX7_joined 120 = .ok (.iload_n 1, 1) := by decide +kernel
theorem dX7_joined_121 : decode cX7_joined 121 = .ok (.iload_n 2, 1) := by decide +kernel
theorem dX7_joined_122 : decode cX7_joined 122 = .ok (.iadd, 1) := by decide +kernel
theorem dX7_joined_123 : decode cX7_joined 123 = .ok (.ireturn, 1) := by decide +kernel
theorem dX7_joined_124 : decode cX7_joined 124 = .ok (.iload_n 1, 1) := by decide +kernel
theorem dX7_joined_125 : decode cX7_joined 125 = .ok (.iload_n 2, 1) := by decide +kernel
theorem dX7_joined_126 : decode cX7_joined 126 = .ok (.isub, 1) := by decide +kernel
theorem dX7_joined_127 : decode cX7_joined 127 = .ok (.ireturn, 1) := by decide +kernel
theorem dX7_joined_128 : decode cX7_joined 128 = .ok (.iload_n 1, 1) := by decide +kernel
theorem dX7_joined_129 : decode cX7_joined 129 = .ok (.iload_n 2, 1) := by decide +kernel
theorem dX7_joined_130 : decode cX7_joined 130 = .ok (.imul, 1) := by decide +kernel
theorem dX7_joined_131 : decode cX7_joined 131 = .ok (.ireturn, 1) := by decide +kernel
theorem dX7_joined_132 : decode cX7_joined 132 = .ok (.iload_n 2, 1) := by decide +kernel
theorem dX7_joined_133 : decode cX7_joined 133 = .ok (.ifCond .ne 7, 3) := by decide +kernel
theorem dX7_joined_136 : decode cX7_joined 136 = .ok (.iconst 0, 1) := by decide +kernel
theorem dX7_joined_137 : decode cX7_joined 137 = .ok (.goto 16, 3) := by decide +kernel
theorem dX7_joined_140 : decode cX7_joined 140 = .ok (.iload_n 2, 1) := by decide +kernel
theorem dX7_joined_141 : decode cX7_joined 141 = .ok (.iconst (-1), 1) := by decide +kernel
theorem dX7_joined_142 : decode cX7_joined 142 = .ok (.if_icmp .ne 8, 3) := by decide +kernel
theorem dX7_joined_145 : decode cX7_joined 145 = .ok (.iload_n 1, 1) := by decide +kernel
theorem dX7_joined_146 : decode cX7_joined 146 = .ok (.ineg, 1) := by decide +kernel
theorem dX7_joined_147 : decode cX7_joined 147 = .ok (.goto 6, 3) := by decide +kernel
theorem dX7_joined_150 : decode cX7_joined 150 = .ok (.iload_n 1, 1) := by decide +kernel
theorem dX7_joined_151 : decode cX7_joined 151 = .ok (.iload_n 2, 1) := by decide +kernel
theorem dX7_joined_152 : decode cX7_joined 152 = .ok (.idiv, 1) := by decide +kernel
theorem dX7_joined_153 : decode cX7_joined 153 = .ok (.ireturn, 1) := by decide +kernel
theorem dX7_joined_154 : decode cX7_joined 154 = .ok (.iload_n 2, 1) := by decide +kernel
theorem dX7_joined_155 : decode cX7_joined 155 = .ok (.ifCond .eq 8, 3) := by decide +kernel
theorem dX7_joined_158 : decode cX7_joined 158 = .ok (.iload_n 2, 1) := by decide +kernel
theorem dX7_joined_159 : decode cX7_joined 159 = .ok (.iconst (-1), 1) := by decide +kernel
theorem dX7_joined_160 : decode cX7_joined 160 = .ok (.if_icmp .ne 7, 3) := by decide +kernel
theorem dX7_joined_163 : decode cX7_joined 163 = .ok (.iconst 0, 1) := by decide +kernel
theorem dX7_joined_164 : decode cX7_joined 164 = .ok (.goto 6, 3) := by decide +kernel
theorem dX7_joined_167 : decode cX7_joined 167 = .ok (.iload_n 1, 1) := by decide +kernel
theorem dX7_joined_168 : decode cX7_joined 168 = .ok (.iload_n 2, 1) := by decide +kernel
theorem dX7_joined_169 : decode cX7_joined 169 = .ok (.irem, 1) := by decide +kernel
theorem dX7_joined_170 : decode cX7_joined 170 = .ok (.ireturn, 1) := by decide +kernel
theorem dX7_joined_171 : decode cX7_joined 171 = .ok (.iload_n 1, 1) := by decide +kernel
theorem dX7_joined_172 : decode cX7_joined 172 = .ok (.iload_n 2, 1) := by decide +kernel
theorem dX7_joined_173 : decode cX7_joined 173 = .ok (.if_icmp .ge 7, 3) := by decide +kernel
theorem dX7_joined_176 : decode cX7_joined 176 = .ok (.iconst 1, 1) := by decide +kernel
theorem dX7_joined_177 : decode cX7_joined 177 = .ok (.goto 4, 3) := by decide +kernel
theorem dX7_joined_180 : decode cX7_joined 180 = .ok (.iconst 0, 1) := by decide +kernel
theorem dX7_joined_181 : decode cX7_joined 181 = .ok (.ireturn, 1) := by decide +kernel
theorem dX7_joined_182 : decode cX7_joined 182 = .ok (.iload_n 1, 1) := by decide +kernel
theorem dX7_joined_183 : decode cX7_joined 183 = .ok (.iload_n 2, 1) := by decide +kernel
theorem dX7_joined_184 : decode cX7_joined 184 = .ok (.if_icmp .le 7, 3) := by decide +kernel
theorem dX7_joined_187 : decode cX7_joined 187 = .ok (.iconst 1, 1) := by decide +kernel
theorem dX7_joined_188 : decode cX7_joined 188 = .ok (.goto 4, 3) := by decide +kernel
theorem dX7_joined_191 : decode cX7_joined 191 = .ok (.iconst 0, 1) := by decide +kernel
theorem dX7_joined_192 : decode cX7_joined 192 = .ok (.ireturn, 1) := by decide +kernel
theorem dX7_joined_193 : decode cX7_joined 193 = .ok (.iload_n 1, 1) := by decide +kernel
theorem dX7_joined_194 : decode cX7_joined 194 = .ok (.iload_n 2, 1) := by decide +kernel
theorem dX7_joined_195 : decode cX7_joined 195 = .ok (.if_icmp .ne 7, 3) := by decide +kernel
theorem dX7_joined_198 : decode cX7_joined 198 = .ok (.iconst 1, 1) := by decide +kernel
theorem dX7_joined_199 : decode cX7_joined 199 = .ok (.goto 4, 3) := by decide +kernel
theorem dX7_joined_202 : decode cX7_joined 202 = .ok (.iconst 0, 1) := by decide +kernel
theorem dX7_joined_203 : decode cX7_joined 203 = .ok (.ireturn, 1) := by decide +kernel
theorem dX7_joined_204 : decode cX7_joined 204 = .ok (.iload_n 1, 1) := by decide +kernel
theorem dX7_joined_205 : decode cX7_joined 205 = .ok (.ifCond .eq 11, 3) := by decide +kernel
theorem dX7_joined_208 : decode cX7_joined 208 = .ok (.iload_n 2, 1) := by decide +kernel
theorem dX7_joined_209 : decode cX7_joined 209 = .ok (.ifCond .eq 7, 3) := by decide +kernel
theorem dX7_joined_212 : decode cX7_joined 212 = .ok (.iconst 1, 1) := by decide +kernel
theorem dX7_joined_213 : decode cX7_joined 213 = .ok (.goto 4, 3) := by decide +kernel
theorem dX7_joined_216 : decode cX7_joined 216 = .ok (.iconst 0, 1) := by decide +kernel
theorem dX7_joined_217 : decode cX7_joined 217 = .ok (.ireturn, 1) := by decide +kernel
theorem dX7_joined_218 : decode cX7_joined 218 = .ok (.iload_n 1, 1) := by decide +kernel
theorem dX7_joined_219 : decode cX7_joined 219 = .ok (.ifCond .ne 7, 3) := by decide +kernel
theorem dX7_joined_222 : decode cX7_joined 222 = .ok (.iload_n 2, 1) := by decide +kernel
theorem dX7_joined_223 : decode cX7_joined 223 = .ok (.ifCond .eq 7, 3) := by decide +kernel
theorem dX7_joined_226 : decode cX7_joined 226 = .ok (.iconst 1, 1) := by decide +kernel
theorem dX7_joined_227 : decode cX7_joined 227 = .ok (.goto 4, 3) := by decide +kernel
theorem dX7_joined_230 : decode cX7_joined 230 = .ok (.iconst 0, 1) := by decide +kernel
theorem dX7_joined_231 : decode cX7_joined 231 = .ok (.ireturn, 1) := by decide +kernel
theorem dX7_worked_0 : decode cX7_worked 0 = .ok (.bipush 48, 2) := by decide +kernel
theorem dX7_worked_2 : decode cX7_worked 2 = .ok (.bipush 125, 2) := by decide +kernel
theorem dX7_worked_4 : decode cX7_worked 4 = .ok (.iload_n 1, 1) := by decide +kernel
theorem dX7_worked_5 : decode cX7_worked 5 = .ok (.imul, 1) := by decide +kernel
theorem dX7_worked_6 : decode cX7_worked 6 = .ok (.iadd, 1) := by decide +kernel
theorem dX7_worked_7 : decode cX7_worked 7 = .ok (.istore_n 2, 1) := by decide +kernel
theorem dX7_worked_8 : decode cX7_worked 8 = .ok (.iconst 0, 1) := by decide +kernel
theorem dX7_worked_9 : decode cX7_worked 9 = .ok (.istore_n 3, 1) := by decide +kernel
theorem dX7_worked_10 : decode cX7_worked 10 = .ok (.iconst 0, 1) := by decide +kernel
theorem dX7_worked_11 : decode cX7_worked 11 = .ok (.istore 4, 2) := by decide +kernel
theorem dX7_worked_13 : decode cX7_worked 13 = .ok (.iload 4, 2) := by decide +kernel
theorem dX7_worked_15 : decode cX7_worked 15 = .ok (.aload_n 0, 1) := by decide +kernel
theorem dX7_worked_16 : decode cX7_worked 16 = .ok (.getfield 7, 3) := by decide +kernel
theorem dX7_worked_19 : decode cX7_worked 19 = .ok (.iload_n 2, 1) := by decide +kernel
theorem dX7_worked_20 : decode cX7_worked 20 = .ok (.iaload, 1) := by decide +kernel
theorem dX7_worked_21 : decode cX7_worked 21 = .ok (.if_icmp .ge 142, 3) := by decide +kernel
theorem dX7_worked_24 : decode cX7_worked 24 = .ok (.aload_n 0, 1) := by decide +kernel
theorem dX7_worked_25 : decode cX7_worked 25 = .ok (.getfield 7, 3) := by decide +kernel
theorem dX7_worked_28 : decode cX7_worked 28 = .ok (.iload_n 2, 1) := by decide +kernel
theorem dX7_worked_29 : decode cX7_worked 29 = .ok (.iconst 1, 1) := by decide +kernel
theorem dX7_worked_30 : decode cX7_worked 30 = .ok (.iadd, 1) := by decide +kernel
theorem dX7_worked_31 : decode cX7_worked 31 = .ok (.iconst 2, 1) := by decide +kernel
theorem dX7_worked_32 : decode cX7_worked 32 = .ok (.iload 4, 2) := by decide +kernel
theorem dX7_worked_34 : decode cX7_worked 34 = .ok (.imul, 1) := by decide +kernel
theorem dX7_worked_35 : decode cX7_worked 35 = .ok (.iadd, 1) := by decide +kernel
theorem dX7_worked_36 : decode cX7_worked 36 = .ok (.iaload, 1) := by decide +kernel
theorem dX7_worked_37 : decode cX7_worked 37 = .ok (.istore 5, 2) := by decide +kernel
theorem dX7_worked_39 : decode cX7_worked 39 = .ok (.aload_n 0, 1) := by decide +kernel
theorem dX7_worked_40 : decode cX7_worked 40 = .ok (.getfield 7, 3) := by decide +kernel
theorem dX7_worked_43 : decode cX7_worked 43 = .ok (.iload_n 2, 1) := by decide +kernel
theorem dX7_worked_44 : decode cX7_worked 44 = .ok (.iconst 2, 1) := by decide +kernel
theorem dX7_worked_45 : decode cX7_worked 45 = .ok (.iadd, 1) := by decide +kernel
theorem dX7_worked_46 : decode cX7_worked 46 = .ok (.iconst 2, 1) := by decide +kernel
theorem dX7_worked_47 : decode cX7_worked 47 = .ok (.iload 4, 2) := by decide +kernel
theorem dX7_worked_49 : decode cX7_worked 49 = .ok (.imul, 1) := by decide +kernel
theorem dX7_worked_50 : decode cX7_worked 50 = .ok (.iadd, 1) := by decide +kernel
theorem dX7_worked_51 : decode cX7_worked 51 = .ok (.iaload, 1) := by decide +kernel
theorem dX7_worked_52 : decode cX7_worked 52 = .ok (.istore 6, 2) := by decide +kernel
theorem dX7_worked_54 : decode cX7_worked 54 = .ok (.iload 5, 2) := by decide +kernel
theorem dX7_worked_56 : decode cX7_worked 56 = .ok (.ifCond .eq 9, 3) := by decide +kernel
theorem dX7_worked_59 : decode cX7_worked 59 = .ok (.iload 5, 2) := by decide +kernel
theorem dX7_worked_61 : decode cX7_worked 61 = .ok (.iconst 1, 1) := by decide +kernel
theorem dX7_worked_62 : decode cX7_worked 62 = .ok (.if_icmp .ne 32, 3) := by decide +kernel
theorem dX7_worked_65 : decode cX7_worked 65 = .ok (.aload_n 0, 1) := by decide +kernel
theorem dX7_worked_66 : decode cX7_worked 66 = .ok (.getfield 28, 3) := by decide +kernel
theorem dX7_worked_69 : decode cX7_worked 69 = .ok (.iload_n 3, 1) := by decide +kernel
theorem dX7_worked_70 : decode cX7_worked 70 = .ok (.iload 5, 2) := by decide +kernel
theorem dX7_worked_72 : decode cX7_worked 72 = .ok (.ifCond .ne 8, 3) := by decide +kernel
theorem dX7_worked_75 : decode cX7_worked 75 = .ok (.iload 6, 2) := by decide +kernel
theorem dX7_worked_77 : decode cX7_worked 77 = .ok (.goto 10, 3) := by decide +kernel
theorem dX7_worked_80 : decode cX7_worked 80 = .ok (.aload_n 0, 1) := by decide +kernel
theorem dX7_worked_81 : decode cX7_worked 81 = .ok (.getfield 25, 3) := by decide +kernel
theorem dX7_worked_84 : decode cX7_worked 84 = .ok (.iload 6, 2) := by decide +kernel
theorem dX7_worked_86 : decode cX7_worked 86 = .ok (.iaload, 1) := by decide +kernel
theorem dX7_worked_87 : decode cX7_worked 87 = .ok (.iastore, 1) := by decide +kernel
theorem dX7_worked_88 : decode cX7_worked 88 = .ok (.iinc 3 1, 3) := by decide +kernel
theorem dX7_worked_91 : decode cX7_worked 91 = .ok (.goto 66, 3) := by decide +kernel
theorem dX7_worked_94 : decode cX7_worked 94 = .ok (.iload 5, 2) := by decide +kernel
theorem dX7_worked_96 : decode cX7_worked 96 = .ok (.iconst 2, 1) := by decide +kernel
theorem dX7_worked_97 : decode cX7_worked 97 = .ok (.if_icmp .ne 30, 3) := by decide +kernel
theorem dX7_worked_100 : decode cX7_worked 100 = .ok (.aload_n 0, 1) := by decide +kernel
theorem dX7_worked_101 : decode cX7_worked 101 = .ok (.getfield 28, 3) := by decide +kernel
theorem dX7_worked_104 : decode cX7_worked 104 = .ok (.iload_n 3, 1) := by decide +kernel
theorem dX7_worked_105 : decode cX7_worked 105 = .ok (.iconst 1, 1) := by decide +kernel
theorem dX7_worked_106 : decode cX7_worked 106 = .ok (.isub, 1) := by decide +kernel
theorem dX7_worked_107 : decode cX7_worked 107 = .ok (.aload_n 0, 1) := by decide +kernel
theorem dX7_worked_108 : decode cX7_worked 108 = .ok (.getfield 28, 3) := by decide +kernel
theorem dX7_worked_111 : decode cX7_worked 111 = .ok (.iload_n 3, 1) := by decide +kernel
theorem dX7_worked_112 : decode cX7_worked 112 = .ok (.iconst 1, 1) := by decide +kernel
theorem dX7_worked_113 : decode cX7_worked 113 = .ok (.isub, 1) := by decide +kernel
theorem dX7_worked_114 : decode cX7_worked 114 = .ok (.iaload, 1) := by decide +kernel
theorem dX7_worked_115 : decode cX7_worked 115 = .ok (.ifCond .ne 7, 3) := by decide +kernel
theorem dX7_worked_118 : decode cX7_worked 118 = .ok (.iconst 1, 1) := by decide +kernel
theorem dX7_worked_119 : decode cX7_worked 119 = .ok (.goto 4, 3) := by decide +kernel
theorem dX7_worked_122 : decode cX7_worked 122 = .ok (.iconst 0, 1) := by decide +kernel
theorem dX7_worked_123 : decode cX7_worked 123 = .ok (.iastore, 1) := by decide +kernel
theorem dX7_worked_124 : decode cX7_worked 124 = .ok (.goto 33, 3) := by decide +kernel
theorem dX7_worked_127 : decode cX7_worked 127 = .ok (.iinc 3 (-1), 3) := by decide +kernel
theorem dX7_worked_130 : decode cX7_worked 130 = .ok (.aload_n 0, 1) := by decide +kernel
theorem dX7_worked_131 : decode cX7_worked 131 = .ok (.getfield 28, 3) := by decide +kernel
theorem dX7_worked_134 : decode cX7_worked 134 = .ok (.iload_n 3, 1) := by decide +kernel
theorem dX7_worked_135 : decode cX7_worked 135 = .ok (.iconst 1, 1) := by decide +kernel
theorem dX7_worked_136 : decode cX7_worked 136 = .ok (.isub, 1) := by decide +kernel
theorem dX7_worked_137 : decode cX7_worked 137 = .ok (.iload 6, 2) := by decide +kernel
theorem dX7_worked_139 : decode cX7_worked 139 = .ok (.aload_n 0, 1) := by decide +kernel
theorem dX7_worked_140 : decode cX7_worked 140 = .ok (.getfield 28, 3) := by decide +kernel
theorem dX7_worked_143 : decode cX7_worked 143 = .ok (.iload_n 3, 1) := by decide +kernel
theorem dX7_worked_144 : decode cX7_worked 144 = .ok (.iconst 1, 1) := by decide +kernel
theorem dX7_worked_145 : decode cX7_worked 145 = .ok (.isub, 1) := by decide +kernel
theorem dX7_worked_146 : decode cX7_worked 146 = .ok (.iaload, 1) := by decide +kernel
theorem dX7_worked_147 : decode cX7_worked 147 = .ok (.aload_n 0, 1) := by decide +kernel
theorem dX7_worked_148 : decode cX7_worked 148 = .ok (.getfield 28, 3) := by decide +kernel
theorem dX7_worked_151 : decode cX7_worked 151 = .ok (.iload_n 3, 1) := by decide +kernel
theorem dX7_worked_152 : decode cX7_worked 152 = .ok (.iaload, 1) := by decide +kernel
theorem dX7_worked_153 : decode cX7_worked 153 = .ok (.invokestatic 116, 3) := by decide +kernel
theorem dX7_worked_156 : decode cX7_worked 156 = .ok (.iastore, 1) := by decide +kernel
theorem dX7_worked_157 : decode cX7_worked 157 = .ok (.iinc 4 1, 3) := by decide +kernel
theorem dX7_worked_160 : decode cX7_worked 160 = .ok (.goto (-147), 3) := by decide +kernel
theorem dX7_worked_163 : decode cX7_worked 163 = .ok (.aload_n 0, 1) := by decide +kernel
theorem dX7_worked_164 : decode cX7_worked 164 = .ok (.getfield 28, 3) := by decide +kernel
theorem dX7_worked_167 : decode cX7_worked 167 = .ok (.iconst 0, 1) := by decide +kernel
theorem dX7_worked_168 : decode cX7_worked 168 = .ok (.iaload, 1) := by decide +kernel
theorem dX7_worked_169 : decode cX7_worked 169 = .ok (.ireturn, 1) := by decide +kernel
theorem dX7_readsOf_0 : decode cX7_readsOf 0 = .ok (.bipush 10, 2) := by decide +kernel
theorem dX7_readsOf_2 : decode cX7_readsOf 2 = .ok (.aload_n 0, 1) := by decide +kernel
theorem dX7_readsOf_3 : decode cX7_readsOf 3 = .ok (.iload_n 2, 1) := by decide +kernel
theorem dX7_readsOf_4 : decode cX7_readsOf 4 = .ok (.iconst 3, 1) := by decide +kernel
theorem dX7_readsOf_5 : decode cX7_readsOf 5 = .ok (.invokevirtual 120, 3) := by decide +kernel
theorem dX7_readsOf_8 : decode cX7_readsOf 8 = .ok (.imul, 1) := by decide +kernel
theorem dX7_readsOf_9 : decode cX7_readsOf 9 = .ok (.istore_n 3, 1) := by decide +kernel
theorem dX7_readsOf_10 : decode cX7_readsOf 10 = .ok (.aload_n 0, 1) := by decide +kernel
theorem dX7_readsOf_11 : decode cX7_readsOf 11 = .ok (.iload_n 1, 1) := by decide +kernel
theorem dX7_readsOf_12 : decode cX7_readsOf 12 = .ok (.iconst 1, 1) := by decide +kernel
theorem dX7_readsOf_13 : decode cX7_readsOf 13 = .ok (.invokevirtual 120, 3) := by decide +kernel
theorem dX7_readsOf_16 : decode cX7_readsOf 16 = .ok (.istore 4, 2) := by decide +kernel
theorem dX7_readsOf_18 : decode cX7_readsOf 18 = .ok (.aload_n 0, 1) := by decide +kernel
theorem dX7_readsOf_19 : decode cX7_readsOf 19 = .ok (.iload_n 1, 1) := by decide +kernel
theorem dX7_readsOf_20 : decode cX7_readsOf 20 = .ok (.iconst 0, 1) := by decide +kernel
theorem dX7_readsOf_21 : decode cX7_readsOf 21 = .ok (.invokevirtual 120, 3) := by decide +kernel
theorem dX7_readsOf_24 : decode cX7_readsOf 24 = .ok (.tableswitch 105 1 6 #[40, 47, 58, 63, 80, 86], 40) := by decide +kernel
theorem dX7_readsOf_64 : decode cX7_readsOf 64 = .ok (.iload_n 3, 1) := by decide +kernel
theorem dX7_readsOf_65 : decode cX7_readsOf 65 = .ok (.iconst 5, 1) := by decide +kernel
theorem dX7_readsOf_66 : decode cX7_readsOf 66 = .ok (.iadd, 1) := by decide +kernel
theorem dX7_readsOf_67 : decode cX7_readsOf 67 = .ok (.iload 4, 2) := by decide +kernel
theorem dX7_readsOf_69 : decode cX7_readsOf 69 = .ok (.iadd, 1) := by decide +kernel
theorem dX7_readsOf_70 : decode cX7_readsOf 70 = .ok (.ireturn, 1) := by decide +kernel
theorem dX7_readsOf_71 : decode cX7_readsOf 71 = .ok (.iload_n 3, 1) := by decide +kernel
theorem dX7_readsOf_72 : decode cX7_readsOf 72 = .ok (.aload_n 0, 1) := by decide +kernel
theorem dX7_readsOf_73 : decode cX7_readsOf 73 = .ok (.iload_n 2, 1) := by decide +kernel
theorem dX7_readsOf_74 : decode cX7_readsOf 74 = .ok (.iconst 2, 1) := by decide +kernel
theorem dX7_readsOf_75 : decode cX7_readsOf 75 = .ok (.invokevirtual 120, 3) := by decide +kernel
theorem dX7_readsOf_78 : decode cX7_readsOf 78 = .ok (.iadd, 1) := by decide +kernel
theorem dX7_readsOf_79 : decode cX7_readsOf 79 = .ok (.iconst 2, 1) := by decide +kernel
theorem dX7_readsOf_80 : decode cX7_readsOf 80 = .ok (.idiv, 1) := by decide +kernel
theorem dX7_readsOf_81 : decode cX7_readsOf 81 = .ok (.ireturn, 1) := by decide +kernel
theorem dX7_readsOf_82 : decode cX7_readsOf 82 = .ok (.bipush 99, 2) := by decide +kernel
theorem dX7_readsOf_84 : decode cX7_readsOf 84 = .ok (.iload_n 3, 1) := by decide +kernel
theorem dX7_readsOf_85 : decode cX7_readsOf 85 = .ok (.isub, 1) := by decide +kernel
theorem dX7_readsOf_86 : decode cX7_readsOf 86 = .ok (.ireturn, 1) := by decide +kernel
theorem dX7_readsOf_87 : decode cX7_readsOf 87 = .ok (.iload_n 3, 1) := by decide +kernel
theorem dX7_readsOf_88 : decode cX7_readsOf 88 = .ok (.iconst 5, 1) := by decide +kernel
theorem dX7_readsOf_89 : decode cX7_readsOf 89 = .ok (.iadd, 1) := by decide +kernel
theorem dX7_readsOf_90 : decode cX7_readsOf 90 = .ok (.iload 4, 2) := by decide +kernel
theorem dX7_readsOf_92 : decode cX7_readsOf 92 = .ok (.iadd, 1) := by decide +kernel
theorem dX7_readsOf_93 : decode cX7_readsOf 93 = .ok (.aload_n 0, 1) := by decide +kernel
theorem dX7_readsOf_94 : decode cX7_readsOf 94 = .ok (.getfield 7, 3) := by decide +kernel
theorem dX7_readsOf_97 : decode cX7_readsOf 97 = .ok (.iconst 0, 1) := by decide +kernel
theorem dX7_readsOf_98 : decode cX7_readsOf 98 = .ok (.iaload, 1) := by decide +kernel
theorem dX7_readsOf_99 : decode cX7_readsOf 99 = .ok (.bipush 7, 2) := by decide +kernel
theorem dX7_readsOf_101 : decode cX7_readsOf 101 = .ok (.irem, 1) := by decide +kernel
theorem dX7_readsOf_102 : decode cX7_readsOf 102 = .ok (.iadd, 1) := by decide +kernel
theorem dX7_readsOf_103 : decode cX7_readsOf 103 = .ok (.ireturn, 1) := by decide +kernel
theorem dX7_readsOf_104 : decode cX7_readsOf 104 = .ok (.bipush 11, 2) := by decide +kernel
theorem dX7_readsOf_106 : decode cX7_readsOf 106 = .ok (.iload 4, 2) := by decide +kernel
theorem dX7_readsOf_108 : decode cX7_readsOf 108 = .ok (.imul, 1) := by decide +kernel
theorem dX7_readsOf_109 : decode cX7_readsOf 109 = .ok (.ireturn, 1) := by decide +kernel
theorem dX7_readsOf_110 : decode cX7_readsOf 110 = .ok (.aload_n 0, 1) := by decide +kernel
theorem dX7_readsOf_111 : decode cX7_readsOf 111 = .ok (.iload_n 2, 1) := by decide +kernel
theorem dX7_readsOf_112 : decode cX7_readsOf 112 = .ok (.iconst 3, 1) := by decide +kernel
theorem dX7_readsOf_113 : decode cX7_readsOf 113 = .ok (.invokevirtual 120, 3) := by decide +kernel
theorem dX7_readsOf_116 : decode cX7_readsOf 116 = .ok (.ifCond .ne 11, 3) := by decide +kernel
theorem dX7_readsOf_119 : decode cX7_readsOf 119 = .ok (.bipush 90, 2) := by decide +kernel
theorem dX7_readsOf_121 : decode cX7_readsOf 121 = .ok (.iload 4, 2) := by decide +kernel
theorem dX7_readsOf_123 : decode cX7_readsOf 123 = .ok (.isub, 1) := by decide +kernel
theorem dX7_readsOf_124 : decode cX7_readsOf 124 = .ok (.goto 4, 3) := by decide +kernel
theorem dX7_readsOf_127 : decode cX7_readsOf 127 = .ok (.iload_n 3, 1) := by decide +kernel
theorem dX7_readsOf_128 : decode cX7_readsOf 128 = .ok (.ireturn, 1) := by decide +kernel
theorem dX7_readsOf_129 : decode cX7_readsOf 129 = .ok (.iload_n 3, 1) := by decide +kernel
theorem dX7_readsOf_130 : decode cX7_readsOf 130 = .ok (.ireturn, 1) := by decide +kernel
theorem dX7_tellsOf_0 : decode cX7_tellsOf 0 = .ok (.aload_n 0, 1) := by decide +kernel
theorem dX7_tellsOf_1 : decode cX7_tellsOf 1 = .ok (.iload_n 1, 1) := by decide +kernel
theorem dX7_tellsOf_2 : decode cX7_tellsOf 2 = .ok (.iconst 3, 1) := by decide +kernel
theorem dX7_tellsOf_3 : decode cX7_tellsOf 3 = .ok (.invokevirtual 120, 3) := by decide +kernel
theorem dX7_tellsOf_6 : decode cX7_tellsOf 6 = .ok (.istore_n 2, 1) := by decide +kernel
theorem dX7_tellsOf_7 : decode cX7_tellsOf 7 = .ok (.aload_n 0, 1) := by decide +kernel
theorem dX7_tellsOf_8 : decode cX7_tellsOf 8 = .ok (.iload_n 1, 1) := by decide +kernel
theorem dX7_tellsOf_9 : decode cX7_tellsOf 9 = .ok (.iconst 2, 1) := by decide +kernel
theorem dX7_tellsOf_10 : decode cX7_tellsOf 10 = .ok (.invokevirtual 120, 3) := by decide +kernel
theorem dX7_tellsOf_13 : decode cX7_tellsOf 13 = .ok (.bipush 50, 2) := by decide +kernel
theorem dX7_tellsOf_15 : decode cX7_tellsOf 15 = .ok (.if_icmp .le 7, 3) := by decide +kernel
theorem dX7_tellsOf_18 : decode cX7_tellsOf 18 = .ok (.iconst 1, 1) := by decide +kernel
theorem dX7_tellsOf_19 : decode cX7_tellsOf 19 = .ok (.goto 4, 3) := by decide +kernel
theorem dX7_tellsOf_22 : decode cX7_tellsOf 22 = .ok (.iconst 0, 1) := by decide +kernel
theorem dX7_tellsOf_23 : decode cX7_tellsOf 23 = .ok (.istore_n 3, 1) := by decide +kernel
theorem dX7_tellsOf_24 : decode cX7_tellsOf 24 = .ok (.aload_n 0, 1) := by decide +kernel
theorem dX7_tellsOf_25 : decode cX7_tellsOf 25 = .ok (.iload_n 1, 1) := by decide +kernel
theorem dX7_tellsOf_26 : decode cX7_tellsOf 26 = .ok (.iconst 0, 1) := by decide +kernel
theorem dX7_tellsOf_27 : decode cX7_tellsOf 27 = .ok (.invokevirtual 120, 3) := by decide +kernel
theorem dX7_tellsOf_30 : decode cX7_tellsOf 30 = .ok (.tableswitch 79 1 6 #[38, 42, 79, 46, 67, 77], 38) := by decide +kernel
theorem dX7_tellsOf_68 : decode cX7_tellsOf 68 = .ok (.iload_n 2, 1) := by decide +kernel
theorem dX7_tellsOf_69 : decode cX7_tellsOf 69 = .ok (.iload_n 3, 1) := by decide +kernel
theorem dX7_tellsOf_70 : decode cX7_tellsOf 70 = .ok (.iadd, 1) := by decide +kernel
theorem dX7_tellsOf_71 : decode cX7_tellsOf 71 = .ok (.ireturn, 1) := by decide +kernel
theorem dX7_tellsOf_72 : decode cX7_tellsOf 72 = .ok (.iload_n 2, 1) := by decide +kernel
theorem dX7_tellsOf_73 : decode cX7_tellsOf 73 = .ok (.iconst 1, 1) := by decide +kernel
theorem dX7_tellsOf_74 : decode cX7_tellsOf 74 = .ok (.isub, 1) := by decide +kernel
theorem dX7_tellsOf_75 : decode cX7_tellsOf 75 = .ok (.ireturn, 1) := by decide +kernel
theorem dX7_tellsOf_76 : decode cX7_tellsOf 76 = .ok (.iload_n 2, 1) := by decide +kernel
theorem dX7_tellsOf_77 : decode cX7_tellsOf 77 = .ok (.iload_n 3, 1) := by decide +kernel
theorem dX7_tellsOf_78 : decode cX7_tellsOf 78 = .ok (.iadd, 1) := by decide +kernel
theorem dX7_tellsOf_79 : decode cX7_tellsOf 79 = .ok (.aload_n 0, 1) := by decide +kernel
theorem dX7_tellsOf_80 : decode cX7_tellsOf 80 = .ok (.getfield 7, 3) := by decide +kernel
theorem dX7_tellsOf_83 : decode cX7_tellsOf 83 = .ok (.iconst 0, 1) := by decide +kernel
theorem dX7_tellsOf_84 : decode cX7_tellsOf 84 = .ok (.iaload, 1) := by decide +kernel
theorem dX7_tellsOf_85 : decode cX7_tellsOf 85 = .ok (.iconst 3, 1) := by decide +kernel
theorem dX7_tellsOf_86 : decode cX7_tellsOf 86 = .ok (.irem, 1) := by decide +kernel
theorem dX7_tellsOf_87 : decode cX7_tellsOf 87 = .ok (.ifCond .ne 7, 3) := by decide +kernel
theorem dX7_tellsOf_90 : decode cX7_tellsOf 90 = .ok (.iconst 1, 1) := by decide +kernel
theorem dX7_tellsOf_91 : decode cX7_tellsOf 91 = .ok (.goto 4, 3) := by decide +kernel
theorem dX7_tellsOf_94 : decode cX7_tellsOf 94 = .ok (.iconst 0, 1) := by decide +kernel
theorem dX7_tellsOf_95 : decode cX7_tellsOf 95 = .ok (.iadd, 1) := by decide +kernel
theorem dX7_tellsOf_96 : decode cX7_tellsOf 96 = .ok (.ireturn, 1) := by decide +kernel
theorem dX7_tellsOf_97 : decode cX7_tellsOf 97 = .ok (.aload_n 0, 1) := by decide +kernel
theorem dX7_tellsOf_98 : decode cX7_tellsOf 98 = .ok (.iload_n 1, 1) := by decide +kernel
theorem dX7_tellsOf_99 : decode cX7_tellsOf 99 = .ok (.iconst 2, 1) := by decide +kernel
theorem dX7_tellsOf_100 : decode cX7_tellsOf 100 = .ok (.invokevirtual 120, 3) := by decide +kernel
theorem dX7_tellsOf_103 : decode cX7_tellsOf 103 = .ok (.bipush 10, 2) := by decide +kernel
theorem dX7_tellsOf_105 : decode cX7_tellsOf 105 = .ok (.idiv, 1) := by decide +kernel
theorem dX7_tellsOf_106 : decode cX7_tellsOf 106 = .ok (.ireturn, 1) := by decide +kernel
theorem dX7_tellsOf_107 : decode cX7_tellsOf 107 = .ok (.iconst 0, 1) := by decide +kernel
theorem dX7_tellsOf_108 : decode cX7_tellsOf 108 = .ok (.ireturn, 1) := by decide +kernel
theorem dX7_tellsOf_109 : decode cX7_tellsOf 109 = .ok (.iload_n 2, 1) := by decide +kernel
theorem dX7_tellsOf_110 : decode cX7_tellsOf 110 = .ok (.ireturn, 1) := by decide +kernel
theorem dX7_takesTold_0 : decode cX7_takesTold 0 = .ok (.aload_n 0, 1) := by decide +kernel
theorem dX7_takesTold_1 : decode cX7_takesTold 1 = .ok (.getfield 25, 3) := by decide +kernel
theorem dX7_takesTold_4 : decode cX7_takesTold 4 = .ok (.bipush 114, 2) := by decide +kernel
theorem dX7_takesTold_6 : decode cX7_takesTold 6 = .ok (.iload_n 1, 1) := by decide +kernel
theorem dX7_takesTold_7 : decode cX7_takesTold 7 = .ok (.iastore, 1) := by decide +kernel
theorem dX7_takesTold_8 : decode cX7_takesTold 8 = .ok (.aload_n 0, 1) := by decide +kernel
theorem dX7_takesTold_9 : decode cX7_takesTold 9 = .ok (.getfield 25, 3) := by decide +kernel
theorem dX7_takesTold_12 : decode cX7_takesTold 12 = .ok (.bipush 110, 2) := by decide +kernel
theorem dX7_takesTold_14 : decode cX7_takesTold 14 = .ok (.iload_n 2, 1) := by decide +kernel
theorem dX7_takesTold_15 : decode cX7_takesTold 15 = .ok (.iastore, 1) := by decide +kernel
theorem dX7_takesTold_16 : decode cX7_takesTold 16 = .ok (.aload_n 0, 1) := by decide +kernel
theorem dX7_takesTold_17 : decode cX7_takesTold 17 = .ok (.getfield 25, 3) := by decide +kernel
theorem dX7_takesTold_20 : decode cX7_takesTold 20 = .ok (.bipush 115, 2) := by decide +kernel
theorem dX7_takesTold_22 : decode cX7_takesTold 22 = .ok (.iload_n 3, 1) := by decide +kernel
theorem dX7_takesTold_23 : decode cX7_takesTold 23 = .ok (.iastore, 1) := by decide +kernel
theorem dX7_takesTold_24 : decode cX7_takesTold 24 = .ok (.aload_n 0, 1) := by decide +kernel
theorem dX7_takesTold_25 : decode cX7_takesTold 25 = .ok (.iconst 0, 1) := by decide +kernel
theorem dX7_takesTold_26 : decode cX7_takesTold 26 = .ok (.invokevirtual 113, 3) := by decide +kernel
theorem dX7_takesTold_29 : decode cX7_takesTold 29 = .ok (.ifCond .eq 11, 3) := by decide +kernel
theorem dX7_takesTold_32 : decode cX7_takesTold 32 = .ok (.aload_n 0, 1) := by decide +kernel
theorem dX7_takesTold_33 : decode cX7_takesTold 33 = .ok (.iconst 0, 1) := by decide +kernel
theorem dX7_takesTold_34 : decode cX7_takesTold 34 = .ok (.invokevirtual 124, 3) := by decide +kernel
theorem dX7_takesTold_37 : decode cX7_takesTold 37 = .ok (.goto 4, 3) := by decide +kernel
theorem dX7_takesTold_40 : decode cX7_takesTold 40 = .ok (.iload_n 1, 1) := by decide +kernel
theorem dX7_takesTold_41 : decode cX7_takesTold 41 = .ok (.iconst 0, 1) := by decide +kernel
theorem dX7_takesTold_42 : decode cX7_takesTold 42 = .ok (.bipush 99, 2) := by decide +kernel
theorem dX7_takesTold_44 : decode cX7_takesTold 44 = .ok (.invokestatic 127, 3) := by decide +kernel
theorem dX7_takesTold_47 : decode cX7_takesTold 47 = .ok (.ireturn, 1) := by decide +kernel
theorem dX7_signTold_0 : decode cX7_signTold 0 = .ok (.aload_n 0, 1) := by decide +kernel
theorem dX7_signTold_1 : decode cX7_signTold 1 = .ok (.getfield 25, 3) := by decide +kernel
theorem dX7_signTold_4 : decode cX7_signTold 4 = .ok (.bipush 103, 2) := by decide +kernel
theorem dX7_signTold_6 : decode cX7_signTold 6 = .ok (.iload_n 1, 1) := by decide +kernel
theorem dX7_signTold_7 : decode cX7_signTold 7 = .ok (.iastore, 1) := by decide +kernel
theorem dX7_signTold_8 : decode cX7_signTold 8 = .ok (.aload_n 0, 1) := by decide +kernel
theorem dX7_signTold_9 : decode cX7_signTold 9 = .ok (.getfield 25, 3) := by decide +kernel
theorem dX7_signTold_12 : decode cX7_signTold 12 = .ok (.bipush 110, 2) := by decide +kernel
theorem dX7_signTold_14 : decode cX7_signTold 14 = .ok (.iload_n 2, 1) := by decide +kernel
theorem dX7_signTold_15 : decode cX7_signTold 15 = .ok (.iastore, 1) := by decide +kernel
theorem dX7_signTold_16 : decode cX7_signTold 16 = .ok (.aload_n 0, 1) := by decide +kernel
theorem dX7_signTold_17 : decode cX7_signTold 17 = .ok (.getfield 25, 3) := by decide +kernel
theorem dX7_signTold_20 : decode cX7_signTold 20 = .ok (.bipush 100, 2) := by decide +kernel
theorem dX7_signTold_22 : decode cX7_signTold 22 = .ok (.iload_n 3, 1) := by decide +kernel
theorem dX7_signTold_23 : decode cX7_signTold 23 = .ok (.iastore, 1) := by decide +kernel
theorem dX7_signTold_24 : decode cX7_signTold 24 = .ok (.aload_n 0, 1) := by decide +kernel
theorem dX7_signTold_25 : decode cX7_signTold 25 = .ok (.iconst 1, 1) := by decide +kernel
theorem dX7_signTold_26 : decode cX7_signTold 26 = .ok (.invokevirtual 113, 3) := by decide +kernel
theorem dX7_signTold_29 : decode cX7_signTold 29 = .ok (.ifCond .eq 11, 3) := by decide +kernel
theorem dX7_signTold_32 : decode cX7_signTold 32 = .ok (.aload_n 0, 1) := by decide +kernel
theorem dX7_signTold_33 : decode cX7_signTold 33 = .ok (.iconst 1, 1) := by decide +kernel
theorem dX7_signTold_34 : decode cX7_signTold 34 = .ok (.invokevirtual 124, 3) := by decide +kernel
theorem dX7_signTold_37 : decode cX7_signTold 37 = .ok (.goto 4, 3) := by decide +kernel
theorem dX7_signTold_40 : decode cX7_signTold 40 = .ok (.iload_n 1, 1) := by decide +kernel
theorem dX7_signTold_41 : decode cX7_signTold 41 = .ok (.iconst 0, 1) := by decide +kernel
theorem dX7_signTold_42 : decode cX7_signTold 42 = .ok (.bipush 9, 2) := by decide +kernel
theorem dX7_signTold_44 : decode cX7_signTold 44 = .ok (.invokestatic 127, 3) := by decide +kernel
theorem dX7_signTold_47 : decode cX7_signTold 47 = .ok (.ireturn, 1) := by decide +kernel
theorem dX7_takes_0 : decode cX7_takes 0 = .ok (.aload_n 0, 1) := by decide +kernel
theorem dX7_takes_1 : decode cX7_takes 1 = .ok (.aload_n 0, 1) := by decide +kernel
theorem dX7_takes_2 : decode cX7_takes 2 = .ok (.iload_n 1, 1) := by decide +kernel
theorem dX7_takes_3 : decode cX7_takes 3 = .ok (.iload_n 2, 1) := by decide +kernel
theorem dX7_takes_4 : decode cX7_takes 4 = .ok (.invokevirtual 130, 3) := by decide +kernel
theorem dX7_takes_7 : decode cX7_takes 7 = .ok (.aload_n 0, 1) := by decide +kernel
theorem dX7_takes_8 : decode cX7_takes 8 = .ok (.iload_n 2, 1) := by decide +kernel
theorem dX7_takes_9 : decode cX7_takes 9 = .ok (.iconst 2, 1) := by decide +kernel
theorem dX7_takes_10 : decode cX7_takes 10 = .ok (.invokevirtual 120, 3) := by decide +kernel
theorem dX7_takes_13 : decode cX7_takes 13 = .ok (.aload_n 0, 1) := by decide +kernel
theorem dX7_takes_14 : decode cX7_takes 14 = .ok (.iload_n 2, 1) := by decide +kernel
theorem dX7_takes_15 : decode cX7_takes 15 = .ok (.iconst 3, 1) := by decide +kernel
theorem dX7_takes_16 : decode cX7_takes 16 = .ok (.invokevirtual 120, 3) := by decide +kernel
theorem dX7_takes_19 : decode cX7_takes 19 = .ok (.invokevirtual 133, 3) := by decide +kernel
theorem dX7_takes_22 : decode cX7_takes 22 = .ok (.ireturn, 1) := by decide +kernel
theorem dX7_signOf_0 : decode cX7_signOf 0 = .ok (.aload_n 0, 1) := by decide +kernel
theorem dX7_signOf_1 : decode cX7_signOf 1 = .ok (.aload_n 0, 1) := by decide +kernel
theorem dX7_signOf_2 : decode cX7_signOf 2 = .ok (.iload_n 1, 1) := by decide +kernel
theorem dX7_signOf_3 : decode cX7_signOf 3 = .ok (.invokevirtual 136, 3) := by decide +kernel
theorem dX7_signOf_6 : decode cX7_signOf 6 = .ok (.aload_n 0, 1) := by decide +kernel
theorem dX7_signOf_7 : decode cX7_signOf 7 = .ok (.iload_n 1, 1) := by decide +kernel
theorem dX7_signOf_8 : decode cX7_signOf 8 = .ok (.iconst 2, 1) := by decide +kernel
theorem dX7_signOf_9 : decode cX7_signOf 9 = .ok (.invokevirtual 120, 3) := by decide +kernel
theorem dX7_signOf_12 : decode cX7_signOf 12 = .ok (.aload_n 0, 1) := by decide +kernel
theorem dX7_signOf_13 : decode cX7_signOf 13 = .ok (.getfield 7, 3) := by decide +kernel
theorem dX7_signOf_16 : decode cX7_signOf 16 = .ok (.iconst 0, 1) := by decide +kernel
theorem dX7_signOf_17 : decode cX7_signOf 17 = .ok (.iaload, 1) := by decide +kernel
theorem dX7_signOf_18 : decode cX7_signOf 18 = .ok (.bipush 7, 2) := by decide +kernel
theorem dX7_signOf_20 : decode cX7_signOf 20 = .ok (.irem, 1) := by decide +kernel
theorem dX7_signOf_21 : decode cX7_signOf 21 = .ok (.invokevirtual 139, 3) := by decide +kernel
theorem dX7_signOf_24 : decode cX7_signOf 24 = .ok (.ireturn, 1) := by decide +kernel
theorem dX7_findThen_0 : decode cX7_findThen 0 = .ok (.iconst 0, 1) := by decide +kernel
theorem dX7_findThen_1 : decode cX7_findThen 1 = .ok (.istore_n 1, 1) := by decide +kernel
theorem dX7_findThen_2 : decode cX7_findThen 2 = .ok (.iload_n 1, 1) := by decide +kernel
theorem dX7_findThen_3 : decode cX7_findThen 3 = .ok (.aload_n 0, 1) := by decide +kernel
theorem dX7_findThen_4 : decode cX7_findThen 4 = .ok (.getfield 7, 3) := by decide +kernel
theorem dX7_findThen_7 : decode cX7_findThen 7 = .ok (.iconst 4, 1) := by decide +kernel
theorem dX7_findThen_8 : decode cX7_findThen 8 = .ok (.iaload, 1) := by decide +kernel
theorem dX7_findThen_9 : decode cX7_findThen 9 = .ok (.if_icmp .ge 93, 3) := by decide +kernel
theorem dX7_findThen_12 : decode cX7_findThen 12 = .ok (.iconst 0, 1) := by decide +kernel
theorem dX7_findThen_13 : decode cX7_findThen 13 = .ok (.istore_n 2, 1) := by decide +kernel
theorem dX7_findThen_14 : decode cX7_findThen 14 = .ok (.iconst 0, 1) := by decide +kernel
theorem dX7_findThen_15 : decode cX7_findThen 15 = .ok (.istore_n 3, 1) := by decide +kernel
theorem dX7_findThen_16 : decode cX7_findThen 16 = .ok (.iload_n 3, 1) := by decide +kernel
theorem dX7_findThen_17 : decode cX7_findThen 17 = .ok (.aload_n 0, 1) := by decide +kernel
theorem dX7_findThen_18 : decode cX7_findThen 18 = .ok (.getfield 7, 3) := by decide +kernel
theorem dX7_findThen_21 : decode cX7_findThen 21 = .ok (.iconst 4, 1) := by decide +kernel
theorem dX7_findThen_22 : decode cX7_findThen 22 = .ok (.iaload, 1) := by decide +kernel
theorem dX7_findThen_23 : decode cX7_findThen 23 = .ok (.if_icmp .ge 27, 3) := by decide +kernel
theorem dX7_findThen_26 : decode cX7_findThen 26 = .ok (.iload_n 2, 1) := by decide +kernel
theorem dX7_findThen_27 : decode cX7_findThen 27 = .ok (.iload_n 3, 1) := by decide +kernel
theorem dX7_findThen_28 : decode cX7_findThen 28 = .ok (.iload_n 1, 1) := by decide +kernel
theorem dX7_findThen_29 : decode cX7_findThen 29 = .ok (.if_icmp .ne 7, 3) := by decide +kernel
theorem dX7_findThen_32 : decode cX7_findThen 32 = .ok (.iconst 0, 1) := by decide +kernel
theorem dX7_findThen_33 : decode cX7_findThen 33 = .ok (.goto 9, 3) := by decide +kernel
theorem dX7_findThen_36 : decode cX7_findThen 36 = .ok (.aload_n 0, 1) := by decide +kernel
theorem dX7_findThen_37 : decode cX7_findThen 37 = .ok (.iload_n 3, 1) := by decide +kernel
theorem dX7_findThen_38 : decode cX7_findThen 38 = .ok (.iload_n 1, 1) := by decide +kernel
theorem dX7_findThen_39 : decode cX7_findThen 39 = .ok (.invokevirtual 142, 3) := by decide +kernel
theorem dX7_findThen_42 : decode cX7_findThen 42 = .ok (.iadd, 1) := by decide +kernel
theorem dX7_findThen_43 : decode cX7_findThen 43 = .ok (.istore_n 2, 1) := by decide +kernel
theorem dX7_findThen_44 : decode cX7_findThen 44 = .ok (.iinc 3 1, 3) := by decide +kernel
theorem dX7_findThen_47 : decode cX7_findThen 47 = .ok (.goto (-31), 3) := by decide +kernel
theorem dX7_findThen_50 : decode cX7_findThen 50 = .ok (.aload_n 0, 1) := by decide +kernel
theorem dX7_findThen_51 : decode cX7_findThen 51 = .ok (.getfield 31, 3) := by decide +kernel
theorem dX7_findThen_54 : decode cX7_findThen 54 = .ok (.iload_n 1, 1) := by decide +kernel
theorem dX7_findThen_55 : decode cX7_findThen 55 = .ok (.aload_n 0, 1) := by decide +kernel
theorem dX7_findThen_56 : decode cX7_findThen 56 = .ok (.getfield 7, 3) := by decide +kernel
theorem dX7_findThen_59 : decode cX7_findThen 59 = .ok (.iconst 4, 1) := by decide +kernel
theorem dX7_findThen_60 : decode cX7_findThen 60 = .ok (.iaload, 1) := by decide +kernel
theorem dX7_findThen_61 : decode cX7_findThen 61 = .ok (.iconst 1, 1) := by decide +kernel
theorem dX7_findThen_62 : decode cX7_findThen 62 = .ok (.if_icmp .ne 12, 3) := by decide +kernel
theorem dX7_findThen_65 : decode cX7_findThen 65 = .ok (.aload_n 0, 1) := by decide +kernel
theorem dX7_findThen_66 : decode cX7_findThen 66 = .ok (.iload_n 1, 1) := by decide +kernel
theorem dX7_findThen_67 : decode cX7_findThen 67 = .ok (.iconst 2, 1) := by decide +kernel
theorem dX7_findThen_68 : decode cX7_findThen 68 = .ok (.invokevirtual 120, 3) := by decide +kernel
theorem dX7_findThen_71 : decode cX7_findThen 71 = .ok (.goto 13, 3) := by decide +kernel
theorem dX7_findThen_74 : decode cX7_findThen 74 = .ok (.iload_n 2, 1) := by decide +kernel
theorem dX7_findThen_75 : decode cX7_findThen 75 = .ok (.aload_n 0, 1) := by decide +kernel
theorem dX7_findThen_76 : decode cX7_findThen 76 = .ok (.getfield 7, 3) := by decide +kernel
theorem dX7_findThen_79 : decode cX7_findThen 79 = .ok (.iconst 4, 1) := by decide +kernel
theorem dX7_findThen_80 : decode cX7_findThen 80 = .ok (.iaload, 1) := by decide +kernel
theorem dX7_findThen_81 : decode cX7_findThen 81 = .ok (.iconst 1, 1) := by decide +kernel
theorem dX7_findThen_82 : decode cX7_findThen 82 = .ok (.isub, 1) := by decide +kernel
theorem dX7_findThen_83 : decode cX7_findThen 83 = .ok (.idiv, 1) := by decide +kernel
theorem dX7_findThen_84 : decode cX7_findThen 84 = .ok (.iastore, 1) := by decide +kernel
theorem dX7_findThen_85 : decode cX7_findThen 85 = .ok (.aload_n 0, 1) := by decide +kernel
theorem dX7_findThen_86 : decode cX7_findThen 86 = .ok (.getfield 34, 3) := by decide +kernel
theorem dX7_findThen_89 : decode cX7_findThen 89 = .ok (.iload_n 1, 1) := by decide +kernel
theorem dX7_findThen_90 : decode cX7_findThen 90 = .ok (.aload_n 0, 1) := by decide +kernel
theorem dX7_findThen_91 : decode cX7_findThen 91 = .ok (.iload_n 1, 1) := by decide +kernel
theorem dX7_findThen_92 : decode cX7_findThen 92 = .ok (.invokevirtual 145, 3) := by decide +kernel
theorem dX7_findThen_95 : decode cX7_findThen 95 = .ok (.iastore, 1) := by decide +kernel
theorem dX7_findThen_96 : decode cX7_findThen 96 = .ok (.iinc 1 1, 3) := by decide +kernel
theorem dX7_findThen_99 : decode cX7_findThen 99 = .ok (.goto (-97), 3) := by decide +kernel
theorem dX7_findThen_102 : decode cX7_findThen 102 = .ok (.return_, 1) := by decide +kernel
theorem dX7_aDay_0 : decode cX7_aDay 0 = .ok (.aload_n 0, 1) := by decide +kernel
theorem dX7_aDay_1 : decode cX7_aDay 1 = .ok (.invokevirtual 148, 3) := by decide +kernel
theorem dX7_aDay_4 : decode cX7_aDay 4 = .ok (.iconst 0, 1) := by decide +kernel
theorem dX7_aDay_5 : decode cX7_aDay 5 = .ok (.istore_n 1, 1) := by decide +kernel
theorem dX7_aDay_6 : decode cX7_aDay 6 = .ok (.iload_n 1, 1) := by decide +kernel
theorem dX7_aDay_7 : decode cX7_aDay 7 = .ok (.aload_n 0, 1) := by decide +kernel
theorem dX7_aDay_8 : decode cX7_aDay 8 = .ok (.getfield 7, 3) := by decide +kernel
theorem dX7_aDay_11 : decode cX7_aDay 11 = .ok (.iconst 4, 1) := by decide +kernel
theorem dX7_aDay_12 : decode cX7_aDay 12 = .ok (.iaload, 1) := by decide +kernel
theorem dX7_aDay_13 : decode cX7_aDay 13 = .ok (.if_icmp .ge 33, 3) := by decide +kernel
theorem dX7_aDay_16 : decode cX7_aDay 16 = .ok (.aload_n 0, 1) := by decide +kernel
theorem dX7_aDay_17 : decode cX7_aDay 17 = .ok (.iload_n 1, 1) := by decide +kernel
theorem dX7_aDay_18 : decode cX7_aDay 18 = .ok (.iconst 2, 1) := by decide +kernel
theorem dX7_aDay_19 : decode cX7_aDay 19 = .ok (.aload_n 0, 1) := by decide +kernel
theorem dX7_aDay_20 : decode cX7_aDay 20 = .ok (.getfield 31, 3) := by decide +kernel
theorem dX7_aDay_23 : decode cX7_aDay 23 = .ok (.iload_n 1, 1) := by decide +kernel
theorem dX7_aDay_24 : decode cX7_aDay 24 = .ok (.iaload, 1) := by decide +kernel
theorem dX7_aDay_25 : decode cX7_aDay 25 = .ok (.invokevirtual 151, 3) := by decide +kernel
theorem dX7_aDay_28 : decode cX7_aDay 28 = .ok (.aload_n 0, 1) := by decide +kernel
theorem dX7_aDay_29 : decode cX7_aDay 29 = .ok (.iload_n 1, 1) := by decide +kernel
theorem dX7_aDay_30 : decode cX7_aDay 30 = .ok (.iconst 3, 1) := by decide +kernel
theorem dX7_aDay_31 : decode cX7_aDay 31 = .ok (.aload_n 0, 1) := by decide +kernel
theorem dX7_aDay_32 : decode cX7_aDay 32 = .ok (.getfield 34, 3) := by decide +kernel
theorem dX7_aDay_35 : decode cX7_aDay 35 = .ok (.iload_n 1, 1) := by decide +kernel
theorem dX7_aDay_36 : decode cX7_aDay 36 = .ok (.iaload, 1) := by decide +kernel
theorem dX7_aDay_37 : decode cX7_aDay 37 = .ok (.invokevirtual 151, 3) := by decide +kernel
theorem dX7_aDay_40 : decode cX7_aDay 40 = .ok (.iinc 1 1, 3) := by decide +kernel
theorem dX7_aDay_43 : decode cX7_aDay 43 = .ok (.goto (-37), 3) := by decide +kernel
theorem dX7_aDay_46 : decode cX7_aDay 46 = .ok (.aload_n 0, 1) := by decide +kernel
theorem dX7_aDay_47 : decode cX7_aDay 47 = .ok (.getfield 7, 3) := by decide +kernel
theorem dX7_aDay_50 : decode cX7_aDay 50 = .ok (.iconst 0, 1) := by decide +kernel
theorem dX7_aDay_51 : decode cX7_aDay 51 = .ok (.dup2, 1) := by decide +kernel
theorem dX7_aDay_52 : decode cX7_aDay 52 = .ok (.iaload, 1) := by decide +kernel
theorem dX7_aDay_53 : decode cX7_aDay 53 = .ok (.iconst 1, 1) := by decide +kernel
theorem dX7_aDay_54 : decode cX7_aDay 54 = .ok (.iadd, 1) := by decide +kernel
theorem dX7_aDay_55 : decode cX7_aDay 55 = .ok (.iastore, 1) := by decide +kernel
theorem dX7_aDay_56 : decode cX7_aDay 56 = .ok (.return_, 1) := by decide +kernel
theorem dX7_goes_0 : decode cX7_goes 0 = .ok (.iconst 0, 1) := by decide +kernel
theorem dX7_goes_1 : decode cX7_goes 1 = .ok (.istore_n 2, 1) := by decide +kernel
theorem dX7_goes_2 : decode cX7_goes 2 = .ok (.iload_n 2, 1) := by decide +kernel
theorem dX7_goes_3 : decode cX7_goes 3 = .ok (.iload_n 1, 1) := by decide +kernel
theorem dX7_goes_4 : decode cX7_goes 4 = .ok (.if_icmp .ge 13, 3) := by decide +kernel
theorem dX7_goes_7 : decode cX7_goes 7 = .ok (.aload_n 0, 1) := by decide +kernel
theorem dX7_goes_8 : decode cX7_goes 8 = .ok (.invokevirtual 155, 3) := by decide +kernel
theorem dX7_goes_11 : decode cX7_goes 11 = .ok (.iinc 2 1, 3) := by decide +kernel
theorem dX7_goes_14 : decode cX7_goes 14 = .ok (.goto (-12), 3) := by decide +kernel
theorem dX7_goes_17 : decode cX7_goes 17 = .ok (.return_, 1) := by decide +kernel
theorem dX7_nearestNow_0 : decode cX7_nearestNow 0 = .ok (.iconst (-1), 1) := by decide +kernel
theorem dX7_nearestNow_1 : decode cX7_nearestNow 1 = .ok (.istore_n 1, 1) := by decide +kernel
theorem dX7_nearestNow_2 : decode cX7_nearestNow 2 = .ok (.iconst 0, 1) := by decide +kernel
theorem dX7_nearestNow_3 : decode cX7_nearestNow 3 = .ok (.istore_n 2, 1) := by decide +kernel
theorem dX7_nearestNow_4 : decode cX7_nearestNow 4 = .ok (.iload_n 2, 1) := by decide +kernel
theorem dX7_nearestNow_5 : decode cX7_nearestNow 5 = .ok (.aload_n 0, 1) := by decide +kernel
theorem dX7_nearestNow_6 : decode cX7_nearestNow 6 = .ok (.getfield 7, 3) := by decide +kernel
theorem dX7_nearestNow_9 : decode cX7_nearestNow 9 = .ok (.iconst 4, 1) := by decide +kernel
theorem dX7_nearestNow_10 : decode cX7_nearestNow 10 = .ok (.iaload, 1) := by decide +kernel
theorem dX7_nearestNow_11 : decode cX7_nearestNow 11 = .ok (.if_icmp .ge 35, 3) := by decide +kernel
theorem dX7_nearestNow_14 : decode cX7_nearestNow 14 = .ok (.iload_n 1, 1) := by decide +kernel
theorem dX7_nearestNow_15 : decode cX7_nearestNow 15 = .ok (.iconst (-1), 1) := by decide +kernel
theorem dX7_nearestNow_16 : decode cX7_nearestNow 16 = .ok (.if_icmp .eq 18, 3) := by decide +kernel
theorem dX7_nearestNow_19 : decode cX7_nearestNow 19 = .ok (.aload_n 0, 1) := by decide +kernel
theorem dX7_nearestNow_20 : decode cX7_nearestNow 20 = .ok (.iload_n 2, 1) := by decide +kernel
theorem dX7_nearestNow_21 : decode cX7_nearestNow 21 = .ok (.iconst 2, 1) := by decide +kernel
theorem dX7_nearestNow_22 : decode cX7_nearestNow 22 = .ok (.invokevirtual 120, 3) := by decide +kernel
theorem dX7_nearestNow_25 : decode cX7_nearestNow 25 = .ok (.aload_n 0, 1) := by decide +kernel
theorem dX7_nearestNow_26 : decode cX7_nearestNow 26 = .ok (.iload_n 1, 1) := by decide +kernel
theorem dX7_nearestNow_27 : decode cX7_nearestNow 27 = .ok (.iconst 2, 1) := by decide +kernel
theorem dX7_nearestNow_28 : decode cX7_nearestNow 28 = .ok (.invokevirtual 120, 3) := by decide +kernel
theorem dX7_nearestNow_31 : decode cX7_nearestNow 31 = .ok (.if_icmp .le 7, 3) := by decide +kernel
theorem dX7_nearestNow_34 : decode cX7_nearestNow 34 = .ok (.iload_n 2, 1) := by decide +kernel
theorem dX7_nearestNow_35 : decode cX7_nearestNow 35 = .ok (.goto 4, 3) := by decide +kernel
theorem dX7_nearestNow_38 : decode cX7_nearestNow 38 = .ok (.iload_n 1, 1) := by decide +kernel
theorem dX7_nearestNow_39 : decode cX7_nearestNow 39 = .ok (.istore_n 1, 1) := by decide +kernel
theorem dX7_nearestNow_40 : decode cX7_nearestNow 40 = .ok (.iinc 2 1, 3) := by decide +kernel
theorem dX7_nearestNow_43 : decode cX7_nearestNow 43 = .ok (.goto (-39), 3) := by decide +kernel
theorem dX7_nearestNow_46 : decode cX7_nearestNow 46 = .ok (.iload_n 1, 1) := by decide +kernel
theorem dX7_nearestNow_47 : decode cX7_nearestNow 47 = .ok (.ireturn, 1) := by decide +kernel
theorem dX7_calls_0 : decode cX7_calls 0 = .ok (.aload_n 0, 1) := by decide +kernel
theorem dX7_calls_1 : decode cX7_calls 1 = .ok (.iload_n 1, 1) := by decide +kernel
theorem dX7_calls_2 : decode cX7_calls 2 = .ok (.iconst 2, 1) := by decide +kernel
theorem dX7_calls_3 : decode cX7_calls 3 = .ok (.invokevirtual 120, 3) := by decide +kernel
theorem dX7_calls_6 : decode cX7_calls 6 = .ok (.aload_n 0, 1) := by decide +kernel
theorem dX7_calls_7 : decode cX7_calls 7 = .ok (.iload_n 2, 1) := by decide +kernel
theorem dX7_calls_8 : decode cX7_calls 8 = .ok (.iconst 2, 1) := by decide +kernel
theorem dX7_calls_9 : decode cX7_calls 9 = .ok (.invokevirtual 120, 3) := by decide +kernel
theorem dX7_calls_12 : decode cX7_calls 12 = .ok (.if_icmp .le 12, 3) := by decide +kernel
theorem dX7_calls_15 : decode cX7_calls 15 = .ok (.aload_n 0, 1) := by decide +kernel
theorem dX7_calls_16 : decode cX7_calls 16 = .ok (.iload_n 1, 1) := by decide +kernel
theorem dX7_calls_17 : decode cX7_calls 17 = .ok (.iconst 2, 1) := by decide +kernel
theorem dX7_calls_18 : decode cX7_calls 18 = .ok (.invokevirtual 120, 3) := by decide +kernel
theorem dX7_calls_21 : decode cX7_calls 21 = .ok (.goto 9, 3) := by decide +kernel
theorem dX7_calls_24 : decode cX7_calls 24 = .ok (.aload_n 0, 1) := by decide +kernel
theorem dX7_calls_25 : decode cX7_calls 25 = .ok (.iload_n 2, 1) := by decide +kernel
theorem dX7_calls_26 : decode cX7_calls 26 = .ok (.iconst 2, 1) := by decide +kernel
theorem dX7_calls_27 : decode cX7_calls 27 = .ok (.invokevirtual 120, 3) := by decide +kernel
theorem dX7_calls_30 : decode cX7_calls 30 = .ok (.istore_n 3, 1) := by decide +kernel
theorem dX7_calls_31 : decode cX7_calls 31 = .ok (.aload_n 0, 1) := by decide +kernel
theorem dX7_calls_32 : decode cX7_calls 32 = .ok (.iload_n 1, 1) := by decide +kernel
theorem dX7_calls_33 : decode cX7_calls 33 = .ok (.iconst 2, 1) := by decide +kernel
theorem dX7_calls_34 : decode cX7_calls 34 = .ok (.iload_n 3, 1) := by decide +kernel
theorem dX7_calls_35 : decode cX7_calls 35 = .ok (.invokevirtual 151, 3) := by decide +kernel
theorem dX7_calls_38 : decode cX7_calls 38 = .ok (.aload_n 0, 1) := by decide +kernel
theorem dX7_calls_39 : decode cX7_calls 39 = .ok (.iload_n 2, 1) := by decide +kernel
theorem dX7_calls_40 : decode cX7_calls 40 = .ok (.iconst 2, 1) := by decide +kernel
theorem dX7_calls_41 : decode cX7_calls 41 = .ok (.iload_n 3, 1) := by decide +kernel
theorem dX7_calls_42 : decode cX7_calls 42 = .ok (.invokevirtual 151, 3) := by decide +kernel
theorem dX7_calls_45 : decode cX7_calls 45 = .ok (.aload_n 0, 1) := by decide +kernel
theorem dX7_calls_46 : decode cX7_calls 46 = .ok (.iload_n 1, 1) := by decide +kernel
theorem dX7_calls_47 : decode cX7_calls 47 = .ok (.iconst 4, 1) := by decide +kernel
theorem dX7_calls_48 : decode cX7_calls 48 = .ok (.aload_n 0, 1) := by decide +kernel
theorem dX7_calls_49 : decode cX7_calls 49 = .ok (.iload_n 1, 1) := by decide +kernel
theorem dX7_calls_50 : decode cX7_calls 50 = .ok (.iconst 4, 1) := by decide +kernel
theorem dX7_calls_51 : decode cX7_calls 51 = .ok (.invokevirtual 120, 3) := by decide +kernel
theorem dX7_calls_54 : decode cX7_calls 54 = .ok (.iconst 1, 1) := by decide +kernel
theorem dX7_calls_55 : decode cX7_calls 55 = .ok (.iload_n 2, 1) := by decide +kernel
theorem dX7_calls_56 : decode cX7_calls 56 = .ok (.ishl, 1) := by decide +kernel
theorem dX7_calls_57 : decode cX7_calls 57 = .ok (.ior, 1) := by decide +kernel
theorem dX7_calls_58 : decode cX7_calls 58 = .ok (.invokevirtual 151, 3) := by decide +kernel
theorem dX7_calls_61 : decode cX7_calls 61 = .ok (.iload_n 3, 1) := by decide +kernel
theorem dX7_calls_62 : decode cX7_calls 62 = .ok (.ireturn, 1) := by decide +kernel
theorem dX7_draw_0 : decode cX7_draw 0 = .ok (.aload_n 0, 1) := by decide +kernel
theorem dX7_draw_1 : decode cX7_draw 1 = .ok (.getfield 7, 3) := by decide +kernel
theorem dX7_draw_4 : decode cX7_draw 4 = .ok (.iconst 1, 1) := by decide +kernel
theorem dX7_draw_5 : decode cX7_draw 5 = .ok (.aload_n 0, 1) := by decide +kernel
theorem dX7_draw_6 : decode cX7_draw 6 = .ok (.getfield 7, 3) := by decide +kernel
theorem dX7_draw_9 : decode cX7_draw 9 = .ok (.iconst 1, 1) := by decide +kernel
theorem dX7_draw_10 : decode cX7_draw 10 = .ok (.iaload, 1) := by decide +kernel
theorem dX7_draw_11 : decode cX7_draw 11 = .ok (.ldc 158, 2) := by decide +kernel
theorem dX7_draw_13 : decode cX7_draw 13 = .ok (.imul, 1) := by decide +kernel
theorem dX7_draw_14 : decode cX7_draw 14 = .ok (.sipush 12345, 3) := by decide +kernel
theorem dX7_draw_17 : decode cX7_draw 17 = .ok (.iadd, 1) := by decide +kernel
theorem dX7_draw_18 : decode cX7_draw 18 = .ok (.iastore, 1) := by decide +kernel
theorem dX7_draw_19 : decode cX7_draw 19 = .ok (.aload_n 0, 1) := by decide +kernel
theorem dX7_draw_20 : decode cX7_draw 20 = .ok (.getfield 7, 3) := by decide +kernel
theorem dX7_draw_23 : decode cX7_draw 23 = .ok (.iconst 1, 1) := by decide +kernel
theorem dX7_draw_24 : decode cX7_draw 24 = .ok (.iaload, 1) := by decide +kernel
theorem dX7_draw_25 : decode cX7_draw 25 = .ok (.bipush 8, 2) := by decide +kernel
theorem dX7_draw_27 : decode cX7_draw 27 = .ok (.iushr, 1) := by decide +kernel
theorem dX7_draw_28 : decode cX7_draw 28 = .ok (.ireturn, 1) := by decide +kernel
theorem dX7_isKind_0 : decode cX7_isKind 0 = .ok (.iload_n 0, 1) := by decide +kernel
theorem dX7_isKind_1 : decode cX7_isKind 1 = .ok (.iconst 0, 1) := by decide +kernel
theorem dX7_isKind_2 : decode cX7_isKind 2 = .ok (.bipush 69, 2) := by decide +kernel
theorem dX7_isKind_4 : decode cX7_isKind 4 = .ok (.invokestatic 53, 3) := by decide +kernel
theorem dX7_isKind_7 : decode cX7_isKind 7 = .ok (.ireturn, 1) := by decide +kernel
theorem dX7_person_0 : decode cX7_person 0 = .ok (.iload_n 1, 1) := by decide +kernel
theorem dX7_person_1 : decode cX7_person 1 = .ok (.invokestatic 159, 3) := by decide +kernel
theorem dX7_person_4 : decode cX7_person 4 = .ok (.ifCond .eq 23, 3) := by decide +kernel
theorem dX7_person_7 : decode cX7_person 7 = .ok (.iload_n 2, 1) := by decide +kernel
theorem dX7_person_8 : decode cX7_person 8 = .ok (.iconst 0, 1) := by decide +kernel
theorem dX7_person_9 : decode cX7_person 9 = .ok (.bipush 99, 2) := by decide +kernel
theorem dX7_person_11 : decode cX7_person 11 = .ok (.invokestatic 53, 3) := by decide +kernel
theorem dX7_person_14 : decode cX7_person 14 = .ok (.ifCond .eq 13, 3) := by decide +kernel
theorem dX7_person_17 : decode cX7_person 17 = .ok (.iload_n 3, 1) := by decide +kernel
theorem dX7_person_18 : decode cX7_person 18 = .ok (.iconst 0, 1) := by decide +kernel
theorem dX7_person_19 : decode cX7_person 19 = .ok (.bipush 9, 2) := by decide +kernel
theorem dX7_person_21 : decode cX7_person 21 = .ok (.invokestatic 53, 3) := by decide +kernel
theorem dX7_person_24 : decode cX7_person 24 = .ok (.ifCond .ne 9, 3) := by decide +kernel
theorem dX7_person_27 : decode cX7_person 27 = .ok (.aload_n 0, 1) := by decide +kernel
theorem dX7_person_28 : decode cX7_person 28 = .ok (.iconst 1, 1) := by decide +kernel
theorem dX7_person_29 : decode cX7_person 29 = .ok (.invokevirtual 61, 3) := by decide +kernel
theorem dX7_person_32 : decode cX7_person 32 = .ok (.ireturn, 1) := by decide +kernel
theorem dX7_person_33 : decode cX7_person 33 = .ok (.aload_n 0, 1) := by decide +kernel
theorem dX7_person_34 : decode cX7_person 34 = .ok (.getfield 7, 3) := by decide +kernel
theorem dX7_person_37 : decode cX7_person 37 = .ok (.iconst 4, 1) := by decide +kernel
theorem dX7_person_38 : decode cX7_person 38 = .ok (.iaload, 1) := by decide +kernel
theorem dX7_person_39 : decode cX7_person 39 = .ok (.bipush 8, 2) := by decide +kernel
theorem dX7_person_41 : decode cX7_person 41 = .ok (.if_icmp .ne 9, 3) := by decide +kernel
theorem dX7_person_44 : decode cX7_person 44 = .ok (.aload_n 0, 1) := by decide +kernel
theorem dX7_person_45 : decode cX7_person 45 = .ok (.iconst 4, 1) := by decide +kernel
theorem dX7_person_46 : decode cX7_person 46 = .ok (.invokevirtual 61, 3) := by decide +kernel
theorem dX7_person_49 : decode cX7_person 49 = .ok (.ireturn, 1) := by decide +kernel
theorem dX7_person_50 : decode cX7_person 50 = .ok (.aload_n 0, 1) := by decide +kernel
theorem dX7_person_51 : decode cX7_person 51 = .ok (.getfield 7, 3) := by decide +kernel
theorem dX7_person_54 : decode cX7_person 54 = .ok (.iconst 4, 1) := by decide +kernel
theorem dX7_person_55 : decode cX7_person 55 = .ok (.iaload, 1) := by decide +kernel
theorem dX7_person_56 : decode cX7_person 56 = .ok (.istore 4, 2) := by decide +kernel
theorem dX7_person_58 : decode cX7_person 58 = .ok (.aload_n 0, 1) := by decide +kernel
theorem dX7_person_59 : decode cX7_person 59 = .ok (.iload 4, 2) := by decide +kernel
theorem dX7_person_61 : decode cX7_person 61 = .ok (.iconst 0, 1) := by decide +kernel
theorem dX7_person_62 : decode cX7_person 62 = .ok (.iload_n 1, 1) := by decide +kernel
theorem dX7_person_63 : decode cX7_person 63 = .ok (.bipush 10, 2) := by decide +kernel
theorem dX7_person_65 : decode cX7_person 65 = .ok (.idiv, 1) := by decide +kernel
theorem dX7_person_66 : decode cX7_person 66 = .ok (.invokevirtual 151, 3) := by decide +kernel
theorem dX7_person_69 : decode cX7_person 69 = .ok (.aload_n 0, 1) := by decide +kernel
theorem dX7_person_70 : decode cX7_person 70 = .ok (.iload 4, 2) := by decide +kernel
theorem dX7_person_72 : decode cX7_person 72 = .ok (.iconst 1, 1) := by decide +kernel
theorem dX7_person_73 : decode cX7_person 73 = .ok (.iload_n 1, 1) := by decide +kernel
theorem dX7_person_74 : decode cX7_person 74 = .ok (.bipush 10, 2) := by decide +kernel
theorem dX7_person_76 : decode cX7_person 76 = .ok (.irem, 1) := by decide +kernel
theorem dX7_person_77 : decode cX7_person 77 = .ok (.invokevirtual 151, 3) := by decide +kernel
theorem dX7_person_80 : decode cX7_person 80 = .ok (.aload_n 0, 1) := by decide +kernel
theorem dX7_person_81 : decode cX7_person 81 = .ok (.iload 4, 2) := by decide +kernel
theorem dX7_person_83 : decode cX7_person 83 = .ok (.iconst 2, 1) := by decide +kernel
theorem dX7_person_84 : decode cX7_person 84 = .ok (.iload_n 2, 1) := by decide +kernel
theorem dX7_person_85 : decode cX7_person 85 = .ok (.invokevirtual 151, 3) := by decide +kernel
theorem dX7_person_88 : decode cX7_person 88 = .ok (.aload_n 0, 1) := by decide +kernel
theorem dX7_person_89 : decode cX7_person 89 = .ok (.iload 4, 2) := by decide +kernel
theorem dX7_person_91 : decode cX7_person 91 = .ok (.iconst 3, 1) := by decide +kernel
theorem dX7_person_92 : decode cX7_person 92 = .ok (.iload_n 3, 1) := by decide +kernel
theorem dX7_person_93 : decode cX7_person 93 = .ok (.invokevirtual 151, 3) := by decide +kernel
theorem dX7_person_96 : decode cX7_person 96 = .ok (.aload_n 0, 1) := by decide +kernel
theorem dX7_person_97 : decode cX7_person 97 = .ok (.iload 4, 2) := by decide +kernel
theorem dX7_person_99 : decode cX7_person 99 = .ok (.iconst 4, 1) := by decide +kernel
theorem dX7_person_100 : decode cX7_person 100 = .ok (.iconst 0, 1) := by decide +kernel
theorem dX7_person_101 : decode cX7_person 101 = .ok (.invokevirtual 151, 3) := by decide +kernel
theorem dX7_person_104 : decode cX7_person 104 = .ok (.aload_n 0, 1) := by decide +kernel
theorem dX7_person_105 : decode cX7_person 105 = .ok (.getfield 7, 3) := by decide +kernel
theorem dX7_person_108 : decode cX7_person 108 = .ok (.iconst 4, 1) := by decide +kernel
theorem dX7_person_109 : decode cX7_person 109 = .ok (.dup2, 1) := by decide +kernel
theorem dX7_person_110 : decode cX7_person 110 = .ok (.iaload, 1) := by decide +kernel
theorem dX7_person_111 : decode cX7_person 111 = .ok (.iconst 1, 1) := by decide +kernel
theorem dX7_person_112 : decode cX7_person 112 = .ok (.iadd, 1) := by decide +kernel
theorem dX7_person_113 : decode cX7_person 113 = .ok (.iastore, 1) := by decide +kernel
theorem dX7_person_114 : decode cX7_person 114 = .ok (.iload 4, 2) := by decide +kernel
theorem dX7_person_116 : decode cX7_person 116 = .ok (.ireturn, 1) := by decide +kernel
theorem dX7_personIs_0 : decode cX7_personIs 0 = .ok (.aload_n 0, 1) := by decide +kernel
theorem dX7_personIs_1 : decode cX7_personIs 1 = .ok (.iload_n 1, 1) := by decide +kernel
theorem dX7_personIs_2 : decode cX7_personIs 2 = .ok (.invokevirtual 57, 3) := by decide +kernel
theorem dX7_personIs_5 : decode cX7_personIs 5 = .ok (.ifCond .eq 21, 3) := by decide +kernel
theorem dX7_personIs_8 : decode cX7_personIs 8 = .ok (.iload_n 2, 1) := by decide +kernel
theorem dX7_personIs_9 : decode cX7_personIs 9 = .ok (.iconst 0, 1) := by decide +kernel
theorem dX7_personIs_10 : decode cX7_personIs 10 = .ok (.iconst 4, 1) := by decide +kernel
theorem dX7_personIs_11 : decode cX7_personIs 11 = .ok (.invokestatic 53, 3) := by decide +kernel
theorem dX7_personIs_14 : decode cX7_personIs 14 = .ok (.ifCond .eq 12, 3) := by decide +kernel
theorem dX7_personIs_17 : decode cX7_personIs 17 = .ok (.aload_n 0, 1) := by decide +kernel
theorem dX7_personIs_18 : decode cX7_personIs 18 = .ok (.iload_n 1, 1) := by decide +kernel
theorem dX7_personIs_19 : decode cX7_personIs 19 = .ok (.iload_n 2, 1) := by decide +kernel
theorem dX7_personIs_20 : decode cX7_personIs 20 = .ok (.invokevirtual 120, 3) := by decide +kernel
theorem dX7_personIs_23 : decode cX7_personIs 23 = .ok (.goto 8, 3) := by decide +kernel
theorem dX7_personIs_26 : decode cX7_personIs 26 = .ok (.aload_n 0, 1) := by decide +kernel
theorem dX7_personIs_27 : decode cX7_personIs 27 = .ok (.iconst 1, 1) := by decide +kernel
theorem dX7_personIs_28 : decode cX7_personIs 28 = .ok (.invokevirtual 61, 3) := by decide +kernel
theorem dX7_personIs_31 : decode cX7_personIs 31 = .ok (.ireturn, 1) := by decide +kernel
theorem dX7_become_0 : decode cX7_become 0 = .ok (.aload_n 0, 1) := by decide +kernel
theorem dX7_become_1 : decode cX7_become 1 = .ok (.iload_n 1, 1) := by decide +kernel
theorem dX7_become_2 : decode cX7_become 2 = .ok (.invokevirtual 57, 3) := by decide +kernel
theorem dX7_become_5 : decode cX7_become 5 = .ok (.ifCond .eq 10, 3) := by decide +kernel
theorem dX7_become_8 : decode cX7_become 8 = .ok (.iload_n 2, 1) := by decide +kernel
theorem dX7_become_9 : decode cX7_become 9 = .ok (.invokestatic 159, 3) := by decide +kernel
theorem dX7_become_12 : decode cX7_become 12 = .ok (.ifCond .ne 9, 3) := by decide +kernel
theorem dX7_become_15 : decode cX7_become 15 = .ok (.aload_n 0, 1) := by decide +kernel
theorem dX7_become_16 : decode cX7_become 16 = .ok (.iconst 1, 1) := by decide +kernel
theorem dX7_become_17 : decode cX7_become 17 = .ok (.invokevirtual 61, 3) := by decide +kernel
theorem dX7_become_20 : decode cX7_become 20 = .ok (.ireturn, 1) := by decide +kernel
theorem dX7_become_21 : decode cX7_become 21 = .ok (.aload_n 0, 1) := by decide +kernel
theorem dX7_become_22 : decode cX7_become 22 = .ok (.iload_n 1, 1) := by decide +kernel
theorem dX7_become_23 : decode cX7_become 23 = .ok (.iconst 1, 1) := by decide +kernel
theorem dX7_become_24 : decode cX7_become 24 = .ok (.iload_n 2, 1) := by decide +kernel
theorem dX7_become_25 : decode cX7_become 25 = .ok (.bipush 10, 2) := by decide +kernel
theorem dX7_become_27 : decode cX7_become 27 = .ok (.irem, 1) := by decide +kernel
theorem dX7_become_28 : decode cX7_become 28 = .ok (.invokevirtual 151, 3) := by decide +kernel
theorem dX7_become_31 : decode cX7_become 31 = .ok (.aload_n 0, 1) := by decide +kernel
theorem dX7_become_32 : decode cX7_become 32 = .ok (.bipush 8, 2) := by decide +kernel
theorem dX7_become_34 : decode cX7_become 34 = .ok (.iconst 5, 1) := by decide +kernel
theorem dX7_become_35 : decode cX7_become 35 = .ok (.iload_n 1, 1) := by decide +kernel
theorem dX7_become_36 : decode cX7_become 36 = .ok (.imul, 1) := by decide +kernel
theorem dX7_become_37 : decode cX7_become 37 = .ok (.iadd, 1) := by decide +kernel
theorem dX7_become_38 : decode cX7_become 38 = .ok (.iconst 0, 1) := by decide +kernel
theorem dX7_become_39 : decode cX7_become 39 = .ok (.iadd, 1) := by decide +kernel
theorem dX7_become_40 : decode cX7_become 40 = .ok (.iload_n 2, 1) := by decide +kernel
theorem dX7_become_41 : decode cX7_become 41 = .ok (.bipush 10, 2) := by decide +kernel
theorem dX7_become_43 : decode cX7_become 43 = .ok (.idiv, 1) := by decide +kernel
theorem dX7_become_44 : decode cX7_become 44 = .ok (.invokevirtual 162, 3) := by decide +kernel
theorem dX7_become_47 : decode cX7_become 47 = .ok (.ireturn, 1) := by decide +kernel
theorem dX7_as_0 : decode cX7_as 0 = .ok (.aload_n 0, 1) := by decide +kernel
theorem dX7_as_1 : decode cX7_as 1 = .ok (.iload_n 1, 1) := by decide +kernel
theorem dX7_as_2 : decode cX7_as 2 = .ok (.invokevirtual 57, 3) := by decide +kernel
theorem dX7_as_5 : decode cX7_as 5 = .ok (.ifCond .eq 13, 3) := by decide +kernel
theorem dX7_as_8 : decode cX7_as 8 = .ok (.iload_n 2, 1) := by decide +kernel
theorem dX7_as_9 : decode cX7_as 9 = .ok (.iconst 0, 1) := by decide +kernel
theorem dX7_as_10 : decode cX7_as 10 = .ok (.bipush 6, 2) := by decide +kernel
theorem dX7_as_12 : decode cX7_as 12 = .ok (.invokestatic 53, 3) := by decide +kernel
theorem dX7_as_15 : decode cX7_as 15 = .ok (.ifCond .ne 9, 3) := by decide +kernel
theorem dX7_as_18 : decode cX7_as 18 = .ok (.aload_n 0, 1) := by decide +kernel
theorem dX7_as_19 : decode cX7_as 19 = .ok (.iconst 1, 1) := by decide +kernel
theorem dX7_as_20 : decode cX7_as 20 = .ok (.invokevirtual 61, 3) := by decide +kernel
theorem dX7_as_23 : decode cX7_as 23 = .ok (.ireturn, 1) := by decide +kernel
theorem dX7_as_24 : decode cX7_as 24 = .ok (.aload_n 0, 1) := by decide +kernel
theorem dX7_as_25 : decode cX7_as 25 = .ok (.iload_n 1, 1) := by decide +kernel
theorem dX7_as_26 : decode cX7_as 26 = .ok (.iconst 0, 1) := by decide +kernel
theorem dX7_as_27 : decode cX7_as 27 = .ok (.invokevirtual 120, 3) := by decide +kernel
theorem dX7_as_30 : decode cX7_as 30 = .ok (.istore_n 3, 1) := by decide +kernel
theorem dX7_as_31 : decode cX7_as 31 = .ok (.iload_n 3, 1) := by decide +kernel
theorem dX7_as_32 : decode cX7_as 32 = .ok (.iload_n 2, 1) := by decide +kernel
theorem dX7_as_33 : decode cX7_as 33 = .ok (.if_icmp .eq 15, 3) := by decide +kernel
theorem dX7_as_36 : decode cX7_as 36 = .ok (.iload_n 3, 1) := by decide +kernel
theorem dX7_as_37 : decode cX7_as 37 = .ok (.ifCond .eq 11, 3) := by decide +kernel
theorem dX7_as_40 : decode cX7_as 40 = .ok (.iload_n 3, 1) := by decide +kernel
theorem dX7_as_41 : decode cX7_as 41 = .ok (.invokestatic 165, 3) := by decide +kernel
theorem dX7_as_44 : decode cX7_as 44 = .ok (.istore_n 3, 1) := by decide +kernel
theorem dX7_as_45 : decode cX7_as 45 = .ok (.goto (-14), 3) := by decide +kernel
theorem dX7_as_48 : decode cX7_as 48 = .ok (.iload_n 3, 1) := by decide +kernel
theorem dX7_as_49 : decode cX7_as 49 = .ok (.iload_n 2, 1) := by decide +kernel
theorem dX7_as_50 : decode cX7_as 50 = .ok (.if_icmp .ne 12, 3) := by decide +kernel
theorem dX7_as_53 : decode cX7_as 53 = .ok (.aload_n 0, 1) := by decide +kernel
theorem dX7_as_54 : decode cX7_as 54 = .ok (.iload_n 1, 1) := by decide +kernel
theorem dX7_as_55 : decode cX7_as 55 = .ok (.iconst 1, 1) := by decide +kernel
theorem dX7_as_56 : decode cX7_as 56 = .ok (.invokevirtual 120, 3) := by decide +kernel
theorem dX7_as_59 : decode cX7_as 59 = .ok (.goto 8, 3) := by decide +kernel
theorem dX7_as_62 : decode cX7_as 62 = .ok (.aload_n 0, 1) := by decide +kernel
theorem dX7_as_63 : decode cX7_as 63 = .ok (.iconst 5, 1) := by decide +kernel
theorem dX7_as_64 : decode cX7_as 64 = .ok (.invokevirtual 61, 3) := by decide +kernel
theorem dX7_as_67 : decode cX7_as 67 = .ok (.ireturn, 1) := by decide +kernel
theorem dX7_shows_0 : decode cX7_shows 0 = .ok (.aload_n 0, 1) := by decide +kernel
theorem dX7_shows_1 : decode cX7_shows 1 = .ok (.iload_n 1, 1) := by decide +kernel
theorem dX7_shows_2 : decode cX7_shows 2 = .ok (.invokevirtual 57, 3) := by decide +kernel
theorem dX7_shows_5 : decode cX7_shows 5 = .ok (.ifCond .eq 29, 3) := by decide +kernel
theorem dX7_shows_8 : decode cX7_shows 8 = .ok (.iload_n 2, 1) := by decide +kernel
theorem dX7_shows_9 : decode cX7_shows 9 = .ok (.iconst 0, 1) := by decide +kernel
theorem dX7_shows_10 : decode cX7_shows 10 = .ok (.bipush 9, 2) := by decide +kernel
theorem dX7_shows_12 : decode cX7_shows 12 = .ok (.invokestatic 53, 3) := by decide +kernel
theorem dX7_shows_15 : decode cX7_shows 15 = .ok (.ifCond .eq 19, 3) := by decide +kernel
theorem dX7_shows_18 : decode cX7_shows 18 = .ok (.aload_n 0, 1) := by decide +kernel
theorem dX7_shows_19 : decode cX7_shows 19 = .ok (.bipush 8, 2) := by decide +kernel
theorem dX7_shows_21 : decode cX7_shows 21 = .ok (.iconst 5, 1) := by decide +kernel
theorem dX7_shows_22 : decode cX7_shows 22 = .ok (.iload_n 1, 1) := by decide +kernel
theorem dX7_shows_23 : decode cX7_shows 23 = .ok (.imul, 1) := by decide +kernel
theorem dX7_shows_24 : decode cX7_shows 24 = .ok (.iadd, 1) := by decide +kernel
theorem dX7_shows_25 : decode cX7_shows 25 = .ok (.iconst 3, 1) := by decide +kernel
theorem dX7_shows_26 : decode cX7_shows 26 = .ok (.iadd, 1) := by decide +kernel
theorem dX7_shows_27 : decode cX7_shows 27 = .ok (.iload_n 2, 1) := by decide +kernel
theorem dX7_shows_28 : decode cX7_shows 28 = .ok (.invokevirtual 162, 3) := by decide +kernel
theorem dX7_shows_31 : decode cX7_shows 31 = .ok (.goto 8, 3) := by decide +kernel
theorem dX7_shows_34 : decode cX7_shows 34 = .ok (.aload_n 0, 1) := by decide +kernel
theorem dX7_shows_35 : decode cX7_shows 35 = .ok (.iconst 1, 1) := by decide +kernel
theorem dX7_shows_36 : decode cX7_shows 36 = .ok (.invokevirtual 61, 3) := by decide +kernel
theorem dX7_shows_39 : decode cX7_shows 39 = .ok (.ireturn, 1) := by decide +kernel
theorem dX7_seems_0 : decode cX7_seems 0 = .ok (.aload_n 0, 1) := by decide +kernel
theorem dX7_seems_1 : decode cX7_seems 1 = .ok (.iload_n 1, 1) := by decide +kernel
theorem dX7_seems_2 : decode cX7_seems 2 = .ok (.invokevirtual 57, 3) := by decide +kernel
theorem dX7_seems_5 : decode cX7_seems 5 = .ok (.ifCond .eq 29, 3) := by decide +kernel
theorem dX7_seems_8 : decode cX7_seems 8 = .ok (.iload_n 2, 1) := by decide +kernel
theorem dX7_seems_9 : decode cX7_seems 9 = .ok (.iconst 0, 1) := by decide +kernel
theorem dX7_seems_10 : decode cX7_seems 10 = .ok (.bipush 99, 2) := by decide +kernel
theorem dX7_seems_12 : decode cX7_seems 12 = .ok (.invokestatic 53, 3) := by decide +kernel
theorem dX7_seems_15 : decode cX7_seems 15 = .ok (.ifCond .eq 19, 3) := by decide +kernel
theorem dX7_seems_18 : decode cX7_seems 18 = .ok (.aload_n 0, 1) := by decide +kernel
theorem dX7_seems_19 : decode cX7_seems 19 = .ok (.bipush 8, 2) := by decide +kernel
theorem dX7_seems_21 : decode cX7_seems 21 = .ok (.iconst 5, 1) := by decide +kernel
theorem dX7_seems_22 : decode cX7_seems 22 = .ok (.iload_n 1, 1) := by decide +kernel
theorem dX7_seems_23 : decode cX7_seems 23 = .ok (.imul, 1) := by decide +kernel
theorem dX7_seems_24 : decode cX7_seems 24 = .ok (.iadd, 1) := by decide +kernel
theorem dX7_seems_25 : decode cX7_seems 25 = .ok (.iconst 2, 1) := by decide +kernel
theorem dX7_seems_26 : decode cX7_seems 26 = .ok (.iadd, 1) := by decide +kernel
theorem dX7_seems_27 : decode cX7_seems 27 = .ok (.iload_n 2, 1) := by decide +kernel
theorem dX7_seems_28 : decode cX7_seems 28 = .ok (.invokevirtual 162, 3) := by decide +kernel
theorem dX7_seems_31 : decode cX7_seems 31 = .ok (.goto 8, 3) := by decide +kernel
theorem dX7_seems_34 : decode cX7_seems 34 = .ok (.aload_n 0, 1) := by decide +kernel
theorem dX7_seems_35 : decode cX7_seems 35 = .ok (.iconst 1, 1) := by decide +kernel
theorem dX7_seems_36 : decode cX7_seems 36 = .ok (.invokevirtual 61, 3) := by decide +kernel
theorem dX7_seems_39 : decode cX7_seems 39 = .ok (.ireturn, 1) := by decide +kernel
theorem dX7_taken_0 : decode cX7_taken 0 = .ok (.aload_n 0, 1) := by decide +kernel
theorem dX7_taken_1 : decode cX7_taken 1 = .ok (.iload_n 1, 1) := by decide +kernel
theorem dX7_taken_2 : decode cX7_taken 2 = .ok (.iload_n 2, 1) := by decide +kernel
theorem dX7_taken_3 : decode cX7_taken 3 = .ok (.invokevirtual 168, 3) := by decide +kernel
theorem dX7_taken_6 : decode cX7_taken 6 = .ok (.ifCond .eq 12, 3) := by decide +kernel
theorem dX7_taken_9 : decode cX7_taken 9 = .ok (.aload_n 0, 1) := by decide +kernel
theorem dX7_taken_10 : decode cX7_taken 10 = .ok (.iload_n 1, 1) := by decide +kernel
theorem dX7_taken_11 : decode cX7_taken 11 = .ok (.iload_n 2, 1) := by decide +kernel
theorem dX7_taken_12 : decode cX7_taken 12 = .ok (.invokevirtual 142, 3) := by decide +kernel
theorem dX7_taken_15 : decode cX7_taken 15 = .ok (.goto 8, 3) := by decide +kernel
theorem dX7_taken_18 : decode cX7_taken 18 = .ok (.aload_n 0, 1) := by decide +kernel
theorem dX7_taken_19 : decode cX7_taken 19 = .ok (.iconst 1, 1) := by decide +kernel
theorem dX7_taken_20 : decode cX7_taken 20 = .ok (.invokevirtual 61, 3) := by decide +kernel
theorem dX7_taken_23 : decode cX7_taken 23 = .ok (.ireturn, 1) := by decide +kernel
theorem dX7_call_0 : decode cX7_call 0 = .ok (.aload_n 0, 1) := by decide +kernel
theorem dX7_call_1 : decode cX7_call 1 = .ok (.iload_n 1, 1) := by decide +kernel
theorem dX7_call_2 : decode cX7_call 2 = .ok (.iload_n 2, 1) := by decide +kernel
theorem dX7_call_3 : decode cX7_call 3 = .ok (.invokevirtual 168, 3) := by decide +kernel
theorem dX7_call_6 : decode cX7_call 6 = .ok (.ifCond .eq 12, 3) := by decide +kernel
theorem dX7_call_9 : decode cX7_call 9 = .ok (.aload_n 0, 1) := by decide +kernel
theorem dX7_call_10 : decode cX7_call 10 = .ok (.iload_n 1, 1) := by decide +kernel
theorem dX7_call_11 : decode cX7_call 11 = .ok (.iload_n 2, 1) := by decide +kernel
theorem dX7_call_12 : decode cX7_call 12 = .ok (.invokevirtual 172, 3) := by decide +kernel
theorem dX7_call_15 : decode cX7_call 15 = .ok (.goto 8, 3) := by decide +kernel
theorem dX7_call_18 : decode cX7_call 18 = .ok (.aload_n 0, 1) := by decide +kernel
theorem dX7_call_19 : decode cX7_call 19 = .ok (.iconst 1, 1) := by decide +kernel
theorem dX7_call_20 : decode cX7_call 20 = .ok (.invokevirtual 61, 3) := by decide +kernel
theorem dX7_call_23 : decode cX7_call 23 = .ok (.ireturn, 1) := by decide +kernel
theorem dX7_law_0 : decode cX7_law 0 = .ok (.iload_n 1, 1) := by decide +kernel
theorem dX7_law_1 : decode cX7_law 1 = .ok (.iconst 0, 1) := by decide +kernel
theorem dX7_law_2 : decode cX7_law 2 = .ok (.iconst 1, 1) := by decide +kernel
theorem dX7_law_3 : decode cX7_law 3 = .ok (.invokestatic 53, 3) := by decide +kernel
theorem dX7_law_6 : decode cX7_law 6 = .ok (.ifCond .ne 9, 3) := by decide +kernel
theorem dX7_law_9 : decode cX7_law 9 = .ok (.aload_n 0, 1) := by decide +kernel
theorem dX7_law_10 : decode cX7_law 10 = .ok (.iconst 1, 1) := by decide +kernel
theorem dX7_law_11 : decode cX7_law 11 = .ok (.invokevirtual 61, 3) := by decide +kernel
theorem dX7_law_14 : decode cX7_law 14 = .ok (.ireturn, 1) := by decide +kernel
theorem dX7_law_15 : decode cX7_law 15 = .ok (.iload_n 1, 1) := by decide +kernel
theorem dX7_law_16 : decode cX7_law 16 = .ok (.ifCond .ne 14, 3) := by decide +kernel
theorem dX7_law_19 : decode cX7_law 19 = .ok (.aload_n 0, 1) := by decide +kernel
theorem dX7_law_20 : decode cX7_law 20 = .ok (.iload_n 2, 1) := by decide +kernel
theorem dX7_law_21 : decode cX7_law 21 = .ok (.iload_n 3, 1) := by decide +kernel
theorem dX7_law_22 : decode cX7_law 22 = .ok (.iload 4, 2) := by decide +kernel
theorem dX7_law_24 : decode cX7_law 24 = .ok (.invokevirtual 133, 3) := by decide +kernel
theorem dX7_law_27 : decode cX7_law 27 = .ok (.goto 11, 3) := by decide +kernel
theorem dX7_law_30 : decode cX7_law 30 = .ok (.aload_n 0, 1) := by decide +kernel
theorem dX7_law_31 : decode cX7_law 31 = .ok (.iload_n 2, 1) := by decide +kernel
theorem dX7_law_32 : decode cX7_law 32 = .ok (.iload_n 3, 1) := by decide +kernel
theorem dX7_law_33 : decode cX7_law 33 = .ok (.iload 4, 2) := by decide +kernel
theorem dX7_law_35 : decode cX7_law 35 = .ok (.invokevirtual 139, 3) := by decide +kernel
theorem dX7_law_38 : decode cX7_law 38 = .ok (.ireturn, 1) := by decide +kernel
theorem dX7_whyNot_0 : decode cX7_whyNot 0 = .ok (.iload_n 1, 1) := by decide +kernel
theorem dX7_whyNot_1 : decode cX7_whyNot 1 = .ok (.iconst 1, 1) := by decide +kernel
theorem dX7_whyNot_2 : decode cX7_whyNot 2 = .ok (.iload_n 2, 1) := by decide +kernel
theorem dX7_whyNot_3 : decode cX7_whyNot 3 = .ok (.invokestatic 53, 3) := by decide +kernel
theorem dX7_whyNot_6 : decode cX7_whyNot 6 = .ok (.ifCond .ne 7, 3) := by decide +kernel
theorem dX7_whyNot_9 : decode cX7_whyNot 9 = .ok (.iconst 1, 1) := by decide +kernel
theorem dX7_whyNot_10 : decode cX7_whyNot 10 = .ok (.goto 22, 3) := by decide +kernel
theorem dX7_whyNot_13 : decode cX7_whyNot 13 = .ok (.aload_n 0, 1) := by decide +kernel
theorem dX7_whyNot_14 : decode cX7_whyNot 14 = .ok (.getfield 7, 3) := by decide +kernel
theorem dX7_whyNot_17 : decode cX7_whyNot 17 = .ok (.iconst 0, 1) := by decide +kernel
theorem dX7_whyNot_18 : decode cX7_whyNot 18 = .ok (.iaload, 1) := by decide +kernel
theorem dX7_whyNot_19 : decode cX7_whyNot 19 = .ok (.iload_n 1, 1) := by decide +kernel
theorem dX7_whyNot_20 : decode cX7_whyNot 20 = .ok (.iadd, 1) := by decide +kernel
theorem dX7_whyNot_21 : decode cX7_whyNot 21 = .ok (.sipush 9999, 3) := by decide +kernel
theorem dX7_whyNot_24 : decode cX7_whyNot 24 = .ok (.if_icmp .le 7, 3) := by decide +kernel
theorem dX7_whyNot_27 : decode cX7_whyNot 27 = .ok (.iconst 3, 1) := by decide +kernel
theorem dX7_whyNot_28 : decode cX7_whyNot 28 = .ok (.goto 4, 3) := by decide +kernel
theorem dX7_whyNot_31 : decode cX7_whyNot 31 = .ok (.iconst 0, 1) := by decide +kernel
theorem dX7_whyNot_32 : decode cX7_whyNot 32 = .ok (.ireturn, 1) := by decide +kernel
theorem dX7_days_0 : decode cX7_days 0 = .ok (.aload_n 0, 1) := by decide +kernel
theorem dX7_days_1 : decode cX7_days 1 = .ok (.iload_n 1, 1) := by decide +kernel
theorem dX7_days_2 : decode cX7_days 2 = .ok (.bipush 100, 2) := by decide +kernel
theorem dX7_days_4 : decode cX7_days 4 = .ok (.invokevirtual 175, 3) := by decide +kernel
theorem dX7_days_7 : decode cX7_days 7 = .ok (.istore_n 2, 1) := by decide +kernel
theorem dX7_days_8 : decode cX7_days 8 = .ok (.iload_n 2, 1) := by decide +kernel
theorem dX7_days_9 : decode cX7_days 9 = .ok (.ifCond .eq 9, 3) := by decide +kernel
theorem dX7_days_12 : decode cX7_days 12 = .ok (.aload_n 0, 1) := by decide +kernel
theorem dX7_days_13 : decode cX7_days 13 = .ok (.iload_n 2, 1) := by decide +kernel
theorem dX7_days_14 : decode cX7_days 14 = .ok (.invokevirtual 61, 3) := by decide +kernel
theorem dX7_days_17 : decode cX7_days 17 = .ok (.ireturn, 1) := by decide +kernel
theorem dX7_days_18 : decode cX7_days 18 = .ok (.aload_n 0, 1) := by decide +kernel
theorem dX7_days_19 : decode cX7_days 19 = .ok (.iload_n 1, 1) := by decide +kernel
theorem dX7_days_20 : decode cX7_days 20 = .ok (.invokevirtual 178, 3) := by decide +kernel
theorem dX7_days_23 : decode cX7_days 23 = .ok (.aload_n 0, 1) := by decide +kernel
theorem dX7_days_24 : decode cX7_days 24 = .ok (.getfield 7, 3) := by decide +kernel
theorem dX7_days_27 : decode cX7_days 27 = .ok (.iconst 0, 1) := by decide +kernel
theorem dX7_days_28 : decode cX7_days 28 = .ok (.iaload, 1) := by decide +kernel
theorem dX7_days_29 : decode cX7_days 29 = .ok (.ireturn, 1) := by decide +kernel
theorem dX7_errands_0 : decode cX7_errands 0 = .ok (.aload_n 0, 1) := by decide +kernel
theorem dX7_errands_1 : decode cX7_errands 1 = .ok (.invokevirtual 182, 3) := by decide +kernel
theorem dX7_errands_4 : decode cX7_errands 4 = .ok (.aload_n 0, 1) := by decide +kernel
theorem dX7_errands_5 : decode cX7_errands 5 = .ok (.getfield 7, 3) := by decide +kernel
theorem dX7_errands_8 : decode cX7_errands 8 = .ok (.iconst 4, 1) := by decide +kernel
theorem dX7_errands_9 : decode cX7_errands 9 = .ok (.iaload, 1) := by decide +kernel
theorem dX7_errands_10 : decode cX7_errands 10 = .ok (.irem, 1) := by decide +kernel
theorem dX7_errands_11 : decode cX7_errands 11 = .ok (.istore_n 1, 1) := by decide +kernel
theorem dX7_errands_12 : decode cX7_errands 12 = .ok (.aload_n 0, 1) := by decide +kernel
theorem dX7_errands_13 : decode cX7_errands 13 = .ok (.iload_n 1, 1) := by decide +kernel
theorem dX7_errands_14 : decode cX7_errands 14 = .ok (.iconst 3, 1) := by decide +kernel
theorem dX7_errands_15 : decode cX7_errands 15 = .ok (.aload_n 0, 1) := by decide +kernel
theorem dX7_errands_16 : decode cX7_errands 16 = .ok (.invokevirtual 182, 3) := by decide +kernel
theorem dX7_errands_19 : decode cX7_errands 19 = .ok (.bipush 10, 2) := by decide +kernel
theorem dX7_errands_21 : decode cX7_errands 21 = .ok (.irem, 1) := by decide +kernel
theorem dX7_errands_22 : decode cX7_errands 22 = .ok (.invokevirtual 151, 3) := by decide +kernel
theorem dX7_errands_25 : decode cX7_errands 25 = .ok (.aload_n 0, 1) := by decide +kernel
theorem dX7_errands_26 : decode cX7_errands 26 = .ok (.invokevirtual 182, 3) := by decide +kernel
theorem dX7_errands_29 : decode cX7_errands 29 = .ok (.aload_n 0, 1) := by decide +kernel
theorem dX7_errands_30 : decode cX7_errands 30 = .ok (.getfield 7, 3) := by decide +kernel
theorem dX7_errands_33 : decode cX7_errands 33 = .ok (.iconst 4, 1) := by decide +kernel
theorem dX7_errands_34 : decode cX7_errands 34 = .ok (.iaload, 1) := by decide +kernel
theorem dX7_errands_35 : decode cX7_errands 35 = .ok (.irem, 1) := by decide +kernel
theorem dX7_errands_36 : decode cX7_errands 36 = .ok (.istore_n 2, 1) := by decide +kernel
theorem dX7_errands_37 : decode cX7_errands 37 = .ok (.aload_n 0, 1) := by decide +kernel
theorem dX7_errands_38 : decode cX7_errands 38 = .ok (.invokevirtual 182, 3) := by decide +kernel
theorem dX7_errands_41 : decode cX7_errands 41 = .ok (.aload_n 0, 1) := by decide +kernel
theorem dX7_errands_42 : decode cX7_errands 42 = .ok (.getfield 7, 3) := by decide +kernel
theorem dX7_errands_45 : decode cX7_errands 45 = .ok (.iconst 4, 1) := by decide +kernel
theorem dX7_errands_46 : decode cX7_errands 46 = .ok (.iaload, 1) := by decide +kernel
theorem dX7_errands_47 : decode cX7_errands 47 = .ok (.irem, 1) := by decide +kernel
theorem dX7_errands_48 : decode cX7_errands 48 = .ok (.istore_n 3, 1) := by decide +kernel
theorem dX7_errands_49 : decode cX7_errands 49 = .ok (.iload_n 2, 1) := by decide +kernel
theorem dX7_errands_50 : decode cX7_errands 50 = .ok (.iload_n 3, 1) := by decide +kernel
theorem dX7_errands_51 : decode cX7_errands 51 = .ok (.if_icmp .eq 11, 3) := by decide +kernel
theorem dX7_errands_54 : decode cX7_errands 54 = .ok (.aload_n 0, 1) := by decide +kernel
theorem dX7_errands_55 : decode cX7_errands 55 = .ok (.iload_n 2, 1) := by decide +kernel
theorem dX7_errands_56 : decode cX7_errands 56 = .ok (.iload_n 3, 1) := by decide +kernel
theorem dX7_errands_57 : decode cX7_errands 57 = .ok (.invokevirtual 172, 3) := by decide +kernel
theorem dX7_errands_60 : decode cX7_errands 60 = .ok (.istore 4, 2) := by decide +kernel
theorem dX7_errands_62 : decode cX7_errands 62 = .ok (.return_, 1) := by decide +kernel
theorem dX7_loose_0 : decode cX7_loose 0 = .ok (.aload_n 0, 1) := by decide +kernel
theorem dX7_loose_1 : decode cX7_loose 1 = .ok (.iload_n 1, 1) := by decide +kernel
theorem dX7_loose_2 : decode cX7_loose 2 = .ok (.bipush 30, 2) := by decide +kernel
theorem dX7_loose_4 : decode cX7_loose 4 = .ok (.invokevirtual 175, 3) := by decide +kernel
theorem dX7_loose_7 : decode cX7_loose 7 = .ok (.istore_n 2, 1) := by decide +kernel
theorem dX7_loose_8 : decode cX7_loose 8 = .ok (.iload_n 2, 1) := by decide +kernel
theorem dX7_loose_9 : decode cX7_loose 9 = .ok (.ifCond .eq 9, 3) := by decide +kernel
theorem dX7_loose_12 : decode cX7_loose 12 = .ok (.aload_n 0, 1) := by decide +kernel
theorem dX7_loose_13 : decode cX7_loose 13 = .ok (.iload_n 2, 1) := by decide +kernel
theorem dX7_loose_14 : decode cX7_loose 14 = .ok (.invokevirtual 61, 3) := by decide +kernel
theorem dX7_loose_17 : decode cX7_loose 17 = .ok (.ireturn, 1) := by decide +kernel
theorem dX7_loose_18 : decode cX7_loose 18 = .ok (.iconst 0, 1) := by decide +kernel
theorem dX7_loose_19 : decode cX7_loose 19 = .ok (.istore_n 3, 1) := by decide +kernel
theorem dX7_loose_20 : decode cX7_loose 20 = .ok (.iload_n 3, 1) := by decide +kernel
theorem dX7_loose_21 : decode cX7_loose 21 = .ok (.iload_n 1, 1) := by decide +kernel
theorem dX7_loose_22 : decode cX7_loose 22 = .ok (.if_icmp .ge 27, 3) := by decide +kernel
theorem dX7_loose_25 : decode cX7_loose 25 = .ok (.aload_n 0, 1) := by decide +kernel
theorem dX7_loose_26 : decode cX7_loose 26 = .ok (.getfield 7, 3) := by decide +kernel
theorem dX7_loose_29 : decode cX7_loose 29 = .ok (.iconst 4, 1) := by decide +kernel
theorem dX7_loose_30 : decode cX7_loose 30 = .ok (.iaload, 1) := by decide +kernel
theorem dX7_loose_31 : decode cX7_loose 31 = .ok (.iconst 1, 1) := by decide +kernel
theorem dX7_loose_32 : decode cX7_loose 32 = .ok (.if_icmp .le 7, 3) := by decide +kernel
theorem dX7_loose_35 : decode cX7_loose 35 = .ok (.aload_n 0, 1) := by decide +kernel
theorem dX7_loose_36 : decode cX7_loose 36 = .ok (.invokevirtual 185, 3) := by decide +kernel
theorem dX7_loose_39 : decode cX7_loose 39 = .ok (.aload_n 0, 1) := by decide +kernel
theorem dX7_loose_40 : decode cX7_loose 40 = .ok (.invokevirtual 155, 3) := by decide +kernel
theorem dX7_loose_43 : decode cX7_loose 43 = .ok (.iinc 3 1, 3) := by decide +kernel
theorem dX7_loose_46 : decode cX7_loose 46 = .ok (.goto (-26), 3) := by decide +kernel
theorem dX7_loose_49 : decode cX7_loose 49 = .ok (.aload_n 0, 1) := by decide +kernel
theorem dX7_loose_50 : decode cX7_loose 50 = .ok (.invokevirtual 188, 3) := by decide +kernel
theorem dX7_loose_53 : decode cX7_loose 53 = .ok (.ireturn, 1) := by decide +kernel
theorem dX7_seed_0 : decode cX7_seed 0 = .ok (.aload_n 0, 1) := by decide +kernel
theorem dX7_seed_1 : decode cX7_seed 1 = .ok (.iconst 1, 1) := by decide +kernel
theorem dX7_seed_2 : decode cX7_seed 2 = .ok (.iload_n 1, 1) := by decide +kernel
theorem dX7_seed_3 : decode cX7_seed 3 = .ok (.invokevirtual 162, 3) := by decide +kernel
theorem dX7_seed_6 : decode cX7_seed 6 = .ok (.ireturn, 1) := by decide +kernel
theorem dX7_nearest_0 : decode cX7_nearest 0 = .ok (.iload_n 1, 1) := by decide +kernel
theorem dX7_nearest_1 : decode cX7_nearest 1 = .ok (.iconst 0, 1) := by decide +kernel
theorem dX7_nearest_2 : decode cX7_nearest 2 = .ok (.bipush 100, 2) := by decide +kernel
theorem dX7_nearest_4 : decode cX7_nearest 4 = .ok (.invokestatic 53, 3) := by decide +kernel
theorem dX7_nearest_7 : decode cX7_nearest 7 = .ok (.ifCond .ne 9, 3) := by decide +kernel
theorem dX7_nearest_10 : decode cX7_nearest 10 = .ok (.aload_n 0, 1) := by decide +kernel
theorem dX7_nearest_11 : decode cX7_nearest 11 = .ok (.iconst 1, 1) := by decide +kernel
theorem dX7_nearest_12 : decode cX7_nearest 12 = .ok (.invokevirtual 61, 3) := by decide +kernel
theorem dX7_nearest_15 : decode cX7_nearest 15 = .ok (.ireturn, 1) := by decide +kernel
theorem dX7_nearest_16 : decode cX7_nearest 16 = .ok (.aload_n 0, 1) := by decide +kernel
theorem dX7_nearest_17 : decode cX7_nearest 17 = .ok (.getfield 7, 3) := by decide +kernel
theorem dX7_nearest_20 : decode cX7_nearest 20 = .ok (.iconst 4, 1) := by decide +kernel
theorem dX7_nearest_21 : decode cX7_nearest 21 = .ok (.iaload, 1) := by decide +kernel
theorem dX7_nearest_22 : decode cX7_nearest 22 = .ok (.ifCond .ne 9, 3) := by decide +kernel
theorem dX7_nearest_25 : decode cX7_nearest 25 = .ok (.aload_n 0, 1) := by decide +kernel
theorem dX7_nearest_26 : decode cX7_nearest 26 = .ok (.iconst 3, 1) := by decide +kernel
theorem dX7_nearest_27 : decode cX7_nearest 27 = .ok (.invokevirtual 61, 3) := by decide +kernel
theorem dX7_nearest_30 : decode cX7_nearest 30 = .ok (.ireturn, 1) := by decide +kernel
theorem dX7_nearest_31 : decode cX7_nearest 31 = .ok (.aload_n 0, 1) := by decide +kernel
theorem dX7_nearest_32 : decode cX7_nearest 32 = .ok (.invokevirtual 191, 3) := by decide +kernel
theorem dX7_nearest_35 : decode cX7_nearest 35 = .ok (.aload_n 0, 1) := by decide +kernel
theorem dX7_nearest_36 : decode cX7_nearest 36 = .ok (.iload_n 1, 1) := by decide +kernel
theorem dX7_nearest_37 : decode cX7_nearest 37 = .ok (.invokevirtual 178, 3) := by decide +kernel
theorem dX7_nearest_40 : decode cX7_nearest 40 = .ok (.aload_n 0, 1) := by decide +kernel
theorem dX7_nearest_41 : decode cX7_nearest 41 = .ok (.invokevirtual 188, 3) := by decide +kernel
theorem dX7_nearest_44 : decode cX7_nearest 44 = .ok (.istore_n 2, 1) := by decide +kernel
theorem dX7_nearest_45 : decode cX7_nearest 45 = .ok (.aload_n 0, 1) := by decide +kernel
theorem dX7_nearest_46 : decode cX7_nearest 46 = .ok (.invokevirtual 194, 3) := by decide +kernel
theorem dX7_nearest_49 : decode cX7_nearest 49 = .ok (.iload_n 2, 1) := by decide +kernel
theorem dX7_nearest_50 : decode cX7_nearest 50 = .ok (.ireturn, 1) := by decide +kernel
theorem dX7_then_0 : decode cX7_then 0 = .ok (.aload_n 0, 1) := by decide +kernel
theorem dX7_then_1 : decode cX7_then 1 = .ok (.iload_n 1, 1) := by decide +kernel
theorem dX7_then_2 : decode cX7_then 2 = .ok (.invokevirtual 57, 3) := by decide +kernel
theorem dX7_then_5 : decode cX7_then 5 = .ok (.ifCond .eq 22, 3) := by decide +kernel
theorem dX7_then_8 : decode cX7_then 8 = .ok (.iload_n 2, 1) := by decide +kernel
theorem dX7_then_9 : decode cX7_then 9 = .ok (.iconst 0, 1) := by decide +kernel
theorem dX7_then_10 : decode cX7_then 10 = .ok (.bipush 100, 2) := by decide +kernel
theorem dX7_then_12 : decode cX7_then 12 = .ok (.invokestatic 53, 3) := by decide +kernel
theorem dX7_then_15 : decode cX7_then 15 = .ok (.ifCond .eq 12, 3) := by decide +kernel
theorem dX7_then_18 : decode cX7_then 18 = .ok (.iload_n 3, 1) := by decide +kernel
theorem dX7_then_19 : decode cX7_then 19 = .ok (.iconst 0, 1) := by decide +kernel
theorem dX7_then_20 : decode cX7_then 20 = .ok (.iconst 1, 1) := by decide +kernel
theorem dX7_then_21 : decode cX7_then 21 = .ok (.invokestatic 53, 3) := by decide +kernel
theorem dX7_then_24 : decode cX7_then 24 = .ok (.ifCond .ne 9, 3) := by decide +kernel
theorem dX7_then_27 : decode cX7_then 27 = .ok (.aload_n 0, 1) := by decide +kernel
theorem dX7_then_28 : decode cX7_then 28 = .ok (.iconst 1, 1) := by decide +kernel
theorem dX7_then_29 : decode cX7_then 29 = .ok (.invokevirtual 61, 3) := by decide +kernel
theorem dX7_then_32 : decode cX7_then 32 = .ok (.ireturn, 1) := by decide +kernel
theorem dX7_then_33 : decode cX7_then 33 = .ok (.aload_n 0, 1) := by decide +kernel
theorem dX7_then_34 : decode cX7_then 34 = .ok (.invokevirtual 191, 3) := by decide +kernel
theorem dX7_then_37 : decode cX7_then 37 = .ok (.aload_n 0, 1) := by decide +kernel
theorem dX7_then_38 : decode cX7_then 38 = .ok (.iload_n 2, 1) := by decide +kernel
theorem dX7_then_39 : decode cX7_then 39 = .ok (.invokevirtual 178, 3) := by decide +kernel
theorem dX7_then_42 : decode cX7_then 42 = .ok (.aload_n 0, 1) := by decide +kernel
theorem dX7_then_43 : decode cX7_then 43 = .ok (.iload_n 1, 1) := by decide +kernel
theorem dX7_then_44 : decode cX7_then 44 = .ok (.iconst 2, 1) := by decide +kernel
theorem dX7_then_45 : decode cX7_then 45 = .ok (.iload_n 3, 1) := by decide +kernel
theorem dX7_then_46 : decode cX7_then 46 = .ok (.iadd, 1) := by decide +kernel
theorem dX7_then_47 : decode cX7_then 47 = .ok (.invokevirtual 120, 3) := by decide +kernel
theorem dX7_then_50 : decode cX7_then 50 = .ok (.istore 4, 2) := by decide +kernel
theorem dX7_then_52 : decode cX7_then 52 = .ok (.aload_n 0, 1) := by decide +kernel
theorem dX7_then_53 : decode cX7_then 53 = .ok (.invokevirtual 194, 3) := by decide +kernel
theorem dX7_then_56 : decode cX7_then 56 = .ok (.iload 4, 2) := by decide +kernel
theorem dX7_then_58 : decode cX7_then 58 = .ok (.ireturn, 1) := by decide +kernel
theorem dX7_isSettled_0 : decode cX7_isSettled 0 = .ok (.aload_n 0, 1) := by decide +kernel
theorem dX7_isSettled_1 : decode cX7_isSettled 1 = .ok (.invokevirtual 148, 3) := by decide +kernel
theorem dX7_isSettled_4 : decode cX7_isSettled 4 = .ok (.iconst 1, 1) := by decide +kernel
theorem dX7_isSettled_5 : decode cX7_isSettled 5 = .ok (.istore_n 1, 1) := by decide +kernel
theorem dX7_isSettled_6 : decode cX7_isSettled 6 = .ok (.iconst 0, 1) := by decide +kernel
theorem dX7_isSettled_7 : decode cX7_isSettled 7 = .ok (.istore_n 2, 1) := by decide +kernel
theorem dX7_isSettled_8 : decode cX7_isSettled 8 = .ok (.iload_n 2, 1) := by decide +kernel
theorem dX7_isSettled_9 : decode cX7_isSettled 9 = .ok (.aload_n 0, 1) := by decide +kernel
theorem dX7_isSettled_10 : decode cX7_isSettled 10 = .ok (.getfield 7, 3) := by decide +kernel
theorem dX7_isSettled_13 : decode cX7_isSettled 13 = .ok (.iconst 4, 1) := by decide +kernel
theorem dX7_isSettled_14 : decode cX7_isSettled 14 = .ok (.iaload, 1) := by decide +kernel
theorem dX7_isSettled_15 : decode cX7_isSettled 15 = .ok (.if_icmp .ge 49, 3) := by decide +kernel
theorem dX7_isSettled_18 : decode cX7_isSettled 18 = .ok (.iload_n 1, 1) := by decide +kernel
theorem dX7_isSettled_19 : decode cX7_isSettled 19 = .ok (.ifCond .eq 37, 3) := by decide +kernel
theorem dX7_isSettled_22 : decode cX7_isSettled 22 = .ok (.aload_n 0, 1) := by decide +kernel
theorem dX7_isSettled_23 : decode cX7_isSettled 23 = .ok (.getfield 31, 3) := by decide +kernel
theorem dX7_isSettled_26 : decode cX7_isSettled 26 = .ok (.iload_n 2, 1) := by decide +kernel
theorem dX7_isSettled_27 : decode cX7_isSettled 27 = .ok (.iaload, 1) := by decide +kernel
theorem dX7_isSettled_28 : decode cX7_isSettled 28 = .ok (.aload_n 0, 1) := by decide +kernel
theorem dX7_isSettled_29 : decode cX7_isSettled 29 = .ok (.iload_n 2, 1) := by decide +kernel
theorem dX7_isSettled_30 : decode cX7_isSettled 30 = .ok (.iconst 2, 1) := by decide +kernel
theorem dX7_isSettled_31 : decode cX7_isSettled 31 = .ok (.invokevirtual 120, 3) := by decide +kernel
theorem dX7_isSettled_34 : decode cX7_isSettled 34 = .ok (.if_icmp .ne 22, 3) := by decide +kernel
theorem dX7_isSettled_37 : decode cX7_isSettled 37 = .ok (.aload_n 0, 1) := by decide +kernel
theorem dX7_isSettled_38 : decode cX7_isSettled 38 = .ok (.getfield 34, 3) := by decide +kernel
theorem dX7_isSettled_41 : decode cX7_isSettled 41 = .ok (.iload_n 2, 1) := by decide +kernel
theorem dX7_isSettled_42 : decode cX7_isSettled 42 = .ok (.iaload, 1) := by decide +kernel
theorem dX7_isSettled_43 : decode cX7_isSettled 43 = .ok (.aload_n 0, 1) := by decide +kernel
theorem dX7_isSettled_44 : decode cX7_isSettled 44 = .ok (.iload_n 2, 1) := by decide +kernel
theorem dX7_isSettled_45 : decode cX7_isSettled 45 = .ok (.iconst 3, 1) := by decide +kernel
theorem dX7_isSettled_46 : decode cX7_isSettled 46 = .ok (.invokevirtual 120, 3) := by decide +kernel
theorem dX7_isSettled_49 : decode cX7_isSettled 49 = .ok (.if_icmp .ne 7, 3) := by decide +kernel
theorem dX7_isSettled_52 : decode cX7_isSettled 52 = .ok (.iconst 1, 1) := by decide +kernel
theorem dX7_isSettled_53 : decode cX7_isSettled 53 = .ok (.goto 4, 3) := by decide +kernel
theorem dX7_isSettled_56 : decode cX7_isSettled 56 = .ok (.iconst 0, 1) := by decide +kernel
theorem dX7_isSettled_57 : decode cX7_isSettled 57 = .ok (.istore_n 1, 1) := by decide +kernel
theorem dX7_isSettled_58 : decode cX7_isSettled 58 = .ok (.iinc 2 1, 3) := by decide +kernel
theorem dX7_isSettled_61 : decode cX7_isSettled 61 = .ok (.goto (-53), 3) := by decide +kernel
theorem dX7_isSettled_64 : decode cX7_isSettled 64 = .ok (.iload_n 1, 1) := by decide +kernel
theorem dX7_isSettled_65 : decode cX7_isSettled 65 = .ok (.ireturn, 1) := by decide +kernel
theorem dX7_settles_0 : decode cX7_settles 0 = .ok (.aload_n 0, 1) := by decide +kernel
theorem dX7_settles_1 : decode cX7_settles 1 = .ok (.invokevirtual 191, 3) := by decide +kernel
theorem dX7_settles_4 : decode cX7_settles 4 = .ok (.iconst 0, 1) := by decide +kernel
theorem dX7_settles_5 : decode cX7_settles 5 = .ok (.istore_n 1, 1) := by decide +kernel
theorem dX7_settles_6 : decode cX7_settles 6 = .ok (.iload_n 1, 1) := by decide +kernel
theorem dX7_settles_7 : decode cX7_settles 7 = .ok (.bipush 100, 2) := by decide +kernel
theorem dX7_settles_9 : decode cX7_settles 9 = .ok (.if_icmp .gt 20, 3) := by decide +kernel
theorem dX7_settles_12 : decode cX7_settles 12 = .ok (.aload_n 0, 1) := by decide +kernel
theorem dX7_settles_13 : decode cX7_settles 13 = .ok (.invokevirtual 197, 3) := by decide +kernel
theorem dX7_settles_16 : decode cX7_settles 16 = .ok (.ifCond .ne 13, 3) := by decide +kernel
theorem dX7_settles_19 : decode cX7_settles 19 = .ok (.aload_n 0, 1) := by decide +kernel
theorem dX7_settles_20 : decode cX7_settles 20 = .ok (.invokevirtual 155, 3) := by decide +kernel
theorem dX7_settles_23 : decode cX7_settles 23 = .ok (.iinc 1 1, 3) := by decide +kernel
theorem dX7_settles_26 : decode cX7_settles 26 = .ok (.goto (-20), 3) := by decide +kernel
theorem dX7_settles_29 : decode cX7_settles 29 = .ok (.aload_n 0, 1) := by decide +kernel
theorem dX7_settles_30 : decode cX7_settles 30 = .ok (.invokevirtual 194, 3) := by decide +kernel
theorem dX7_settles_33 : decode cX7_settles 33 = .ok (.iload_n 1, 1) := by decide +kernel
theorem dX7_settles_34 : decode cX7_settles 34 = .ok (.bipush 100, 2) := by decide +kernel
theorem dX7_settles_36 : decode cX7_settles 36 = .ok (.if_icmp .le 11, 3) := by decide +kernel
theorem dX7_settles_39 : decode cX7_settles 39 = .ok (.aload_n 0, 1) := by decide +kernel
theorem dX7_settles_40 : decode cX7_settles 40 = .ok (.iconst 2, 1) := by decide +kernel
theorem dX7_settles_41 : decode cX7_settles 41 = .ok (.invokevirtual 61, 3) := by decide +kernel
theorem dX7_settles_44 : decode cX7_settles 44 = .ok (.goto 4, 3) := by decide +kernel
theorem dX7_settles_47 : decode cX7_settles 47 = .ok (.iload_n 1, 1) := by decide +kernel
theorem dX7_settles_48 : decode cX7_settles 48 = .ok (.ireturn, 1) := by decide +kernel
theorem dX7_rank_0 : decode cX7_rank 0 = .ok (.aload_n 0, 1) := by decide +kernel
theorem dX7_rank_1 : decode cX7_rank 1 = .ok (.iload_n 1, 1) := by decide +kernel
theorem dX7_rank_2 : decode cX7_rank 2 = .ok (.invokevirtual 57, 3) := by decide +kernel
theorem dX7_rank_5 : decode cX7_rank 5 = .ok (.ifCond .ne 9, 3) := by decide +kernel
theorem dX7_rank_8 : decode cX7_rank 8 = .ok (.aload_n 0, 1) := by decide +kernel
theorem dX7_rank_9 : decode cX7_rank 9 = .ok (.iconst 1, 1) := by decide +kernel
theorem dX7_rank_10 : decode cX7_rank 10 = .ok (.invokevirtual 61, 3) := by decide +kernel
theorem dX7_rank_13 : decode cX7_rank 13 = .ok (.ireturn, 1) := by decide +kernel
theorem dX7_rank_14 : decode cX7_rank 14 = .ok (.iconst 0, 1) := by decide +kernel
theorem dX7_rank_15 : decode cX7_rank 15 = .ok (.istore_n 2, 1) := by decide +kernel
theorem dX7_rank_16 : decode cX7_rank 16 = .ok (.iconst 0, 1) := by decide +kernel
theorem dX7_rank_17 : decode cX7_rank 17 = .ok (.istore_n 3, 1) := by decide +kernel
theorem dX7_rank_18 : decode cX7_rank 18 = .ok (.iload_n 3, 1) := by decide +kernel
theorem dX7_rank_19 : decode cX7_rank 19 = .ok (.aload_n 0, 1) := by decide +kernel
theorem dX7_rank_20 : decode cX7_rank 20 = .ok (.getfield 7, 3) := by decide +kernel
theorem dX7_rank_23 : decode cX7_rank 23 = .ok (.iconst 4, 1) := by decide +kernel
theorem dX7_rank_24 : decode cX7_rank 24 = .ok (.iaload, 1) := by decide +kernel
theorem dX7_rank_25 : decode cX7_rank 25 = .ok (.if_icmp .ge 32, 3) := by decide +kernel
theorem dX7_rank_28 : decode cX7_rank 28 = .ok (.iload_n 2, 1) := by decide +kernel
theorem dX7_rank_29 : decode cX7_rank 29 = .ok (.aload_n 0, 1) := by decide +kernel
theorem dX7_rank_30 : decode cX7_rank 30 = .ok (.iload_n 3, 1) := by decide +kernel
theorem dX7_rank_31 : decode cX7_rank 31 = .ok (.iconst 2, 1) := by decide +kernel
theorem dX7_rank_32 : decode cX7_rank 32 = .ok (.invokevirtual 120, 3) := by decide +kernel
theorem dX7_rank_35 : decode cX7_rank 35 = .ok (.aload_n 0, 1) := by decide +kernel
theorem dX7_rank_36 : decode cX7_rank 36 = .ok (.iload_n 1, 1) := by decide +kernel
theorem dX7_rank_37 : decode cX7_rank 37 = .ok (.iconst 2, 1) := by decide +kernel
theorem dX7_rank_38 : decode cX7_rank 38 = .ok (.invokevirtual 120, 3) := by decide +kernel
theorem dX7_rank_41 : decode cX7_rank 41 = .ok (.if_icmp .le 7, 3) := by decide +kernel
theorem dX7_rank_44 : decode cX7_rank 44 = .ok (.iconst 1, 1) := by decide +kernel
theorem dX7_rank_45 : decode cX7_rank 45 = .ok (.goto 4, 3) := by decide +kernel
theorem dX7_rank_48 : decode cX7_rank 48 = .ok (.iconst 0, 1) := by decide +kernel
theorem dX7_rank_49 : decode cX7_rank 49 = .ok (.iadd, 1) := by decide +kernel
theorem dX7_rank_50 : decode cX7_rank 50 = .ok (.istore_n 2, 1) := by decide +kernel
theorem dX7_rank_51 : decode cX7_rank 51 = .ok (.iinc 3 1, 3) := by decide +kernel
theorem dX7_rank_54 : decode cX7_rank 54 = .ok (.goto (-36), 3) := by decide +kernel
theorem dX7_rank_57 : decode cX7_rank 57 = .ok (.iload_n 2, 1) := by decide +kernel
theorem dX7_rank_58 : decode cX7_rank 58 = .ok (.ireturn, 1) := by decide +kernel
theorem dX7_manyIn_0 : decode cX7_manyIn 0 = .ok (.iconst 0, 1) := by decide +kernel
theorem dX7_manyIn_1 : decode cX7_manyIn 1 = .ok (.istore_n 1, 1) := by decide +kernel
theorem dX7_manyIn_2 : decode cX7_manyIn 2 = .ok (.iconst 0, 1) := by decide +kernel
theorem dX7_manyIn_3 : decode cX7_manyIn 3 = .ok (.istore_n 2, 1) := by decide +kernel
theorem dX7_manyIn_4 : decode cX7_manyIn 4 = .ok (.iload_n 2, 1) := by decide +kernel
theorem dX7_manyIn_5 : decode cX7_manyIn 5 = .ok (.bipush 8, 2) := by decide +kernel
theorem dX7_manyIn_7 : decode cX7_manyIn 7 = .ok (.if_icmp .ge 17, 3) := by decide +kernel
theorem dX7_manyIn_10 : decode cX7_manyIn 10 = .ok (.iload_n 1, 1) := by decide +kernel
theorem dX7_manyIn_11 : decode cX7_manyIn 11 = .ok (.iload_n 0, 1) := by decide +kernel
theorem dX7_manyIn_12 : decode cX7_manyIn 12 = .ok (.iload_n 2, 1) := by decide +kernel
theorem dX7_manyIn_13 : decode cX7_manyIn 13 = .ok (.ishr, 1) := by decide +kernel
theorem dX7_manyIn_14 : decode cX7_manyIn 14 = .ok (.iconst 1, 1) := by decide +kernel
theorem dX7_manyIn_15 : decode cX7_manyIn 15 = .ok (.iand, 1) := by decide +kernel
theorem dX7_manyIn_16 : decode cX7_manyIn 16 = .ok (.iadd, 1) := by decide +kernel
theorem dX7_manyIn_17 : decode cX7_manyIn 17 = .ok (.istore_n 1, 1) := by decide +kernel
theorem dX7_manyIn_18 : decode cX7_manyIn 18 = .ok (.iinc 2 1, 3) := by decide +kernel
theorem dX7_manyIn_21 : decode cX7_manyIn 21 = .ok (.goto (-17), 3) := by decide +kernel
theorem dX7_manyIn_24 : decode cX7_manyIn 24 = .ok (.iload_n 1, 1) := by decide +kernel
theorem dX7_manyIn_25 : decode cX7_manyIn 25 = .ok (.ireturn, 1) := by decide +kernel
theorem dX7_doesLead_0 : decode cX7_doesLead 0 = .ok (.aload_n 0, 1) := by decide +kernel
theorem dX7_doesLead_1 : decode cX7_doesLead 1 = .ok (.invokevirtual 191, 3) := by decide +kernel
theorem dX7_doesLead_4 : decode cX7_doesLead 4 = .ok (.iconst 0, 1) := by decide +kernel
theorem dX7_doesLead_5 : decode cX7_doesLead 5 = .ok (.istore 5, 2) := by decide +kernel
theorem dX7_doesLead_7 : decode cX7_doesLead 7 = .ok (.iload 5, 2) := by decide +kernel
theorem dX7_doesLead_9 : decode cX7_doesLead 9 = .ok (.aload_n 0, 1) := by decide +kernel
theorem dX7_doesLead_10 : decode cX7_doesLead 10 = .ok (.getfield 7, 3) := by decide +kernel
theorem dX7_doesLead_13 : decode cX7_doesLead 13 = .ok (.iconst 4, 1) := by decide +kernel
theorem dX7_doesLead_14 : decode cX7_doesLead 14 = .ok (.iaload, 1) := by decide +kernel
theorem dX7_doesLead_15 : decode cX7_doesLead 15 = .ok (.if_icmp .ge 38, 3) := by decide +kernel
theorem dX7_doesLead_18 : decode cX7_doesLead 18 = .ok (.aload_n 0, 1) := by decide +kernel
theorem dX7_doesLead_19 : decode cX7_doesLead 19 = .ok (.iload 5, 2) := by decide +kernel
theorem dX7_doesLead_21 : decode cX7_doesLead 21 = .ok (.iconst 3, 1) := by decide +kernel
theorem dX7_doesLead_22 : decode cX7_doesLead 22 = .ok (.iload 4, 2) := by decide +kernel
theorem dX7_doesLead_24 : decode cX7_doesLead 24 = .ok (.iload 5, 2) := by decide +kernel
theorem dX7_doesLead_26 : decode cX7_doesLead 26 = .ok (.ishr, 1) := by decide +kernel
theorem dX7_doesLead_27 : decode cX7_doesLead 27 = .ok (.iconst 1, 1) := by decide +kernel
theorem dX7_doesLead_28 : decode cX7_doesLead 28 = .ok (.iand, 1) := by decide +kernel
theorem dX7_doesLead_29 : decode cX7_doesLead 29 = .ok (.iconst 1, 1) := by decide +kernel
theorem dX7_doesLead_30 : decode cX7_doesLead 30 = .ok (.if_icmp .ne 7, 3) := by decide +kernel
theorem dX7_doesLead_33 : decode cX7_doesLead 33 = .ok (.iload_n 2, 1) := by decide +kernel
theorem dX7_doesLead_34 : decode cX7_doesLead 34 = .ok (.goto 10, 3) := by decide +kernel
theorem dX7_doesLead_37 : decode cX7_doesLead 37 = .ok (.aload_n 0, 1) := by decide +kernel
theorem dX7_doesLead_38 : decode cX7_doesLead 38 = .ok (.iload 5, 2) := by decide +kernel
theorem dX7_doesLead_40 : decode cX7_doesLead 40 = .ok (.iconst 3, 1) := by decide +kernel
theorem dX7_doesLead_41 : decode cX7_doesLead 41 = .ok (.invokevirtual 120, 3) := by decide +kernel
theorem dX7_doesLead_44 : decode cX7_doesLead 44 = .ok (.invokevirtual 151, 3) := by decide +kernel
theorem dX7_doesLead_47 : decode cX7_doesLead 47 = .ok (.iinc 5 1, 3) := by decide +kernel
theorem dX7_doesLead_50 : decode cX7_doesLead 50 = .ok (.goto (-43), 3) := by decide +kernel
theorem dX7_doesLead_53 : decode cX7_doesLead 53 = .ok (.aload_n 0, 1) := by decide +kernel
theorem dX7_doesLead_54 : decode cX7_doesLead 54 = .ok (.iload_n 3, 1) := by decide +kernel
theorem dX7_doesLead_55 : decode cX7_doesLead 55 = .ok (.invokevirtual 178, 3) := by decide +kernel
theorem dX7_doesLead_58 : decode cX7_doesLead 58 = .ok (.aload_n 0, 1) := by decide +kernel
theorem dX7_doesLead_59 : decode cX7_doesLead 59 = .ok (.invokevirtual 188, 3) := by decide +kernel
theorem dX7_doesLead_62 : decode cX7_doesLead 62 = .ok (.iload_n 1, 1) := by decide +kernel
theorem dX7_doesLead_63 : decode cX7_doesLead 63 = .ok (.if_icmp .ne 7, 3) := by decide +kernel
theorem dX7_doesLead_66 : decode cX7_doesLead 66 = .ok (.iconst 1, 1) := by decide +kernel
theorem dX7_doesLead_67 : decode cX7_doesLead 67 = .ok (.goto 4, 3) := by decide +kernel
theorem dX7_doesLead_70 : decode cX7_doesLead 70 = .ok (.iconst 0, 1) := by decide +kernel
theorem dX7_doesLead_71 : decode cX7_doesLead 71 = .ok (.istore 5, 2) := by decide +kernel
theorem dX7_doesLead_73 : decode cX7_doesLead 73 = .ok (.aload_n 0, 1) := by decide +kernel
theorem dX7_doesLead_74 : decode cX7_doesLead 74 = .ok (.invokevirtual 194, 3) := by decide +kernel
theorem dX7_doesLead_77 : decode cX7_doesLead 77 = .ok (.iload 5, 2) := by decide +kernel
theorem dX7_doesLead_79 : decode cX7_doesLead 79 = .ok (.ireturn, 1) := by decide +kernel
theorem dX7_signs_0 : decode cX7_signs 0 = .ok (.aload_n 0, 1) := by decide +kernel
theorem dX7_signs_1 : decode cX7_signs 1 = .ok (.iload_n 1, 1) := by decide +kernel
theorem dX7_signs_2 : decode cX7_signs 2 = .ok (.invokevirtual 57, 3) := by decide +kernel
theorem dX7_signs_5 : decode cX7_signs 5 = .ok (.ifCond .eq 32, 3) := by decide +kernel
theorem dX7_signs_8 : decode cX7_signs 8 = .ok (.iload_n 2, 1) := by decide +kernel
theorem dX7_signs_9 : decode cX7_signs 9 = .ok (.iconst 0, 1) := by decide +kernel
theorem dX7_signs_10 : decode cX7_signs 10 = .ok (.bipush 9, 2) := by decide +kernel
theorem dX7_signs_12 : decode cX7_signs 12 = .ok (.invokestatic 53, 3) := by decide +kernel
theorem dX7_signs_15 : decode cX7_signs 15 = .ok (.ifCond .eq 22, 3) := by decide +kernel
theorem dX7_signs_18 : decode cX7_signs 18 = .ok (.iload_n 3, 1) := by decide +kernel
theorem dX7_signs_19 : decode cX7_signs 19 = .ok (.iconst 1, 1) := by decide +kernel
theorem dX7_signs_20 : decode cX7_signs 20 = .ok (.iconst 4, 1) := by decide +kernel
theorem dX7_signs_21 : decode cX7_signs 21 = .ok (.invokestatic 53, 3) := by decide +kernel
theorem dX7_signs_24 : decode cX7_signs 24 = .ok (.ifCond .eq 13, 3) := by decide +kernel
theorem dX7_signs_27 : decode cX7_signs 27 = .ok (.iload 4, 2) := by decide +kernel
theorem dX7_signs_29 : decode cX7_signs 29 = .ok (.iconst 0, 1) := by decide +kernel
theorem dX7_signs_30 : decode cX7_signs 30 = .ok (.iconst 1, 1) := by decide +kernel
theorem dX7_signs_31 : decode cX7_signs 31 = .ok (.invokestatic 53, 3) := by decide +kernel
theorem dX7_signs_34 : decode cX7_signs 34 = .ok (.ifCond .ne 9, 3) := by decide +kernel
theorem dX7_signs_37 : decode cX7_signs 37 = .ok (.aload_n 0, 1) := by decide +kernel
theorem dX7_signs_38 : decode cX7_signs 38 = .ok (.iconst 1, 1) := by decide +kernel
theorem dX7_signs_39 : decode cX7_signs 39 = .ok (.invokevirtual 61, 3) := by decide +kernel
theorem dX7_signs_42 : decode cX7_signs 42 = .ok (.ireturn, 1) := by decide +kernel
theorem dX7_signs_43 : decode cX7_signs 43 = .ok (.iconst (-1), 1) := by decide +kernel
theorem dX7_signs_44 : decode cX7_signs 44 = .ok (.istore 5, 2) := by decide +kernel
theorem dX7_signs_46 : decode cX7_signs 46 = .ok (.iconst 0, 1) := by decide +kernel
theorem dX7_signs_47 : decode cX7_signs 47 = .ok (.istore 6, 2) := by decide +kernel
theorem dX7_signs_49 : decode cX7_signs 49 = .ok (.iload 6, 2) := by decide +kernel
theorem dX7_signs_51 : decode cX7_signs 51 = .ok (.iconst 1, 1) := by decide +kernel
theorem dX7_signs_52 : decode cX7_signs 52 = .ok (.aload_n 0, 1) := by decide +kernel
theorem dX7_signs_53 : decode cX7_signs 53 = .ok (.getfield 7, 3) := by decide +kernel
theorem dX7_signs_56 : decode cX7_signs 56 = .ok (.iconst 4, 1) := by decide +kernel
theorem dX7_signs_57 : decode cX7_signs 57 = .ok (.iaload, 1) := by decide +kernel
theorem dX7_signs_58 : decode cX7_signs 58 = .ok (.ishl, 1) := by decide +kernel
theorem dX7_signs_59 : decode cX7_signs 59 = .ok (.if_icmp .ge 61, 3) := by decide +kernel
theorem dX7_signs_62 : decode cX7_signs 62 = .ok (.iload 5, 2) := by decide +kernel
theorem dX7_signs_64 : decode cX7_signs 64 = .ok (.iconst (-1), 1) := by decide +kernel
theorem dX7_signs_65 : decode cX7_signs 65 = .ok (.if_icmp .eq 16, 3) := by decide +kernel
theorem dX7_signs_68 : decode cX7_signs 68 = .ok (.iload 6, 2) := by decide +kernel
theorem dX7_signs_70 : decode cX7_signs 70 = .ok (.invokestatic 200, 3) := by decide +kernel
theorem dX7_signs_73 : decode cX7_signs 73 = .ok (.iload 5, 2) := by decide +kernel
theorem dX7_signs_75 : decode cX7_signs 75 = .ok (.invokestatic 200, 3) := by decide +kernel
theorem dX7_signs_78 : decode cX7_signs 78 = .ok (.if_icmp .ge 7, 3) := by decide +kernel
theorem dX7_signs_81 : decode cX7_signs 81 = .ok (.iconst 1, 1) := by decide +kernel
theorem dX7_signs_82 : decode cX7_signs 82 = .ok (.goto 4, 3) := by decide +kernel
theorem dX7_signs_85 : decode cX7_signs 85 = .ok (.iconst 0, 1) := by decide +kernel
theorem dX7_signs_86 : decode cX7_signs 86 = .ok (.istore 7, 2) := by decide +kernel
theorem dX7_signs_88 : decode cX7_signs 88 = .ok (.iload 7, 2) := by decide +kernel
theorem dX7_signs_90 : decode cX7_signs 90 = .ok (.ifCond .eq 20, 3) := by decide +kernel
theorem dX7_signs_93 : decode cX7_signs 93 = .ok (.aload_n 0, 1) := by decide +kernel
theorem dX7_signs_94 : decode cX7_signs 94 = .ok (.iload_n 1, 1) := by decide +kernel
theorem dX7_signs_95 : decode cX7_signs 95 = .ok (.iload_n 2, 1) := by decide +kernel
theorem dX7_signs_96 : decode cX7_signs 96 = .ok (.iload_n 3, 1) := by decide +kernel
theorem dX7_signs_97 : decode cX7_signs 97 = .ok (.iload 6, 2) := by decide +kernel
theorem dX7_signs_99 : decode cX7_signs 99 = .ok (.invokevirtual 203, 3) := by decide +kernel
theorem dX7_signs_102 : decode cX7_signs 102 = .ok (.ifCond .eq 8, 3) := by decide +kernel
theorem dX7_signs_105 : decode cX7_signs 105 = .ok (.iload 6, 2) := by decide +kernel
theorem dX7_signs_107 : decode cX7_signs 107 = .ok (.goto 5, 3) := by decide +kernel
theorem dX7_signs_110 : decode cX7_signs 110 = .ok (.iload 5, 2) := by decide +kernel
theorem dX7_signs_112 : decode cX7_signs 112 = .ok (.istore 5, 2) := by decide +kernel
theorem dX7_signs_114 : decode cX7_signs 114 = .ok (.iinc 6 1, 3) := by decide +kernel
theorem dX7_signs_117 : decode cX7_signs 117 = .ok (.goto (-68), 3) := by decide +kernel
theorem dX7_signs_120 : decode cX7_signs 120 = .ok (.iload 5, 2) := by decide +kernel
theorem dX7_signs_122 : decode cX7_signs 122 = .ok (.iconst (-1), 1) := by decide +kernel
theorem dX7_signs_123 : decode cX7_signs 123 = .ok (.if_icmp .ne 11, 3) := by decide +kernel
theorem dX7_signs_126 : decode cX7_signs 126 = .ok (.aload_n 0, 1) := by decide +kernel
theorem dX7_signs_127 : decode cX7_signs 127 = .ok (.iconst 2, 1) := by decide +kernel
theorem dX7_signs_128 : decode cX7_signs 128 = .ok (.invokevirtual 61, 3) := by decide +kernel
theorem dX7_signs_131 : decode cX7_signs 131 = .ok (.goto 18, 3) := by decide +kernel
theorem dX7_signs_134 : decode cX7_signs 134 = .ok (.iload 4, 2) := by decide +kernel
theorem dX7_signs_136 : decode cX7_signs 136 = .ok (.ifCond .ne 11, 3) := by decide +kernel
theorem dX7_signs_139 : decode cX7_signs 139 = .ok (.iload 5, 2) := by decide +kernel
theorem dX7_signs_141 : decode cX7_signs 141 = .ok (.invokestatic 200, 3) := by decide +kernel
theorem dX7_signs_144 : decode cX7_signs 144 = .ok (.goto 5, 3) := by decide +kernel
theorem dX7_signs_147 : decode cX7_signs 147 = .ok (.iload 5, 2) := by decide +kernel
theorem dX7_signs_149 : decode cX7_signs 149 = .ok (.ireturn, 1) := by decide +kernel
theorem dX7_heard_0 : decode cX7_heard 0 = .ok (.aload_n 0, 1) := by decide +kernel
theorem dX7_heard_1 : decode cX7_heard 1 = .ok (.iload_n 1, 1) := by decide +kernel
theorem dX7_heard_2 : decode cX7_heard 2 = .ok (.invokevirtual 57, 3) := by decide +kernel
theorem dX7_heard_5 : decode cX7_heard 5 = .ok (.ifCond .ne 9, 3) := by decide +kernel
theorem dX7_heard_8 : decode cX7_heard 8 = .ok (.aload_n 0, 1) := by decide +kernel
theorem dX7_heard_9 : decode cX7_heard 9 = .ok (.iconst 1, 1) := by decide +kernel
theorem dX7_heard_10 : decode cX7_heard 10 = .ok (.invokevirtual 61, 3) := by decide +kernel
theorem dX7_heard_13 : decode cX7_heard 13 = .ok (.ireturn, 1) := by decide +kernel
theorem dX7_heard_14 : decode cX7_heard 14 = .ok (.iconst 1, 1) := by decide +kernel
theorem dX7_heard_15 : decode cX7_heard 15 = .ok (.iload_n 1, 1) := by decide +kernel
theorem dX7_heard_16 : decode cX7_heard 16 = .ok (.ishl, 1) := by decide +kernel
end
section
theorem dX7_heard_17 : decode cX7_heard 17 = .ok (.istore_n 2, 1) := by decide +kernel
theorem dX7_heard_18 : decode cX7_heard 18 = .ok (.iconst 0, 1) := by decide +kernel
theorem dX7_heard_19 : decode cX7_heard 19 = .ok (.istore_n 3, 1) := by decide +kernel
theorem dX7_heard_20 : decode cX7_heard 20 = .ok (.iload_n 3, 1) := by decide +kernel
theorem dX7_heard_21 : decode cX7_heard 21 = .ok (.iload_n 2, 1) := by decide +kernel
theorem dX7_heard_22 : decode cX7_heard 22 = .ok (.if_icmp .eq 52, 3) := by decide +kernel
theorem dX7_heard_25 : decode cX7_heard 25 = .ok (.iload_n 2, 1) := by decide +kernel
theorem dX7_heard_26 : decode cX7_heard 26 = .ok (.istore_n 3, 1) := by decide +kernel
theorem dX7_heard_27 : decode cX7_heard 27 = .ok (.iconst 0, 1) := by decide +kernel
theorem dX7_heard_28 : decode cX7_heard 28 = .ok (.istore 4, 2) := by decide +kernel
theorem dX7_heard_30 : decode cX7_heard 30 = .ok (.iload 4, 2) := by decide +kernel
theorem dX7_heard_32 : decode cX7_heard 32 = .ok (.aload_n 0, 1) := by decide +kernel
theorem dX7_heard_33 : decode cX7_heard 33 = .ok (.getfield 7, 3) := by decide +kernel
theorem dX7_heard_36 : decode cX7_heard 36 = .ok (.iconst 4, 1) := by decide +kernel
theorem dX7_heard_37 : decode cX7_heard 37 = .ok (.iaload, 1) := by decide +kernel
theorem dX7_heard_38 : decode cX7_heard 38 = .ok (.if_icmp .ge 33, 3) := by decide +kernel
theorem dX7_heard_41 : decode cX7_heard 41 = .ok (.iload_n 2, 1) := by decide +kernel
theorem dX7_heard_42 : decode cX7_heard 42 = .ok (.iload_n 3, 1) := by decide +kernel
theorem dX7_heard_43 : decode cX7_heard 43 = .ok (.iload 4, 2) := by decide +kernel
theorem dX7_heard_45 : decode cX7_heard 45 = .ok (.ishr, 1) := by decide +kernel
theorem dX7_heard_46 : decode cX7_heard 46 = .ok (.iconst 1, 1) := by decide +kernel
theorem dX7_heard_47 : decode cX7_heard 47 = .ok (.iand, 1) := by decide +kernel
theorem dX7_heard_48 : decode cX7_heard 48 = .ok (.iconst 1, 1) := by decide +kernel
theorem dX7_heard_49 : decode cX7_heard 49 = .ok (.if_icmp .ne 13, 3) := by decide +kernel
theorem dX7_heard_52 : decode cX7_heard 52 = .ok (.aload_n 0, 1) := by decide +kernel
theorem dX7_heard_53 : decode cX7_heard 53 = .ok (.iload 4, 2) := by decide +kernel
theorem dX7_heard_55 : decode cX7_heard 55 = .ok (.iconst 4, 1) := by decide +kernel
theorem dX7_heard_56 : decode cX7_heard 56 = .ok (.invokevirtual 120, 3) := by decide +kernel
theorem dX7_heard_59 : decode cX7_heard 59 = .ok (.goto 4, 3) := by decide +kernel
theorem dX7_heard_62 : decode cX7_heard 62 = .ok (.iconst 0, 1) := by decide +kernel
theorem dX7_heard_63 : decode cX7_heard 63 = .ok (.ior, 1) := by decide +kernel
theorem dX7_heard_64 : decode cX7_heard 64 = .ok (.istore_n 2, 1) := by decide +kernel
theorem dX7_heard_65 : decode cX7_heard 65 = .ok (.iinc 4 1, 3) := by decide +kernel
theorem dX7_heard_68 : decode cX7_heard 68 = .ok (.goto (-38), 3) := by decide +kernel
theorem dX7_heard_71 : decode cX7_heard 71 = .ok (.goto (-51), 3) := by decide +kernel
theorem dX7_heard_74 : decode cX7_heard 74 = .ok (.iload_n 2, 1) := by decide +kernel
theorem dX7_heard_75 : decode cX7_heard 75 = .ok (.ireturn, 1) := by decide +kernel
theorem dX7_divisor_0 : decode cX7_divisor 0 = .ok (.iload_n 0, 1) := by decide +kernel
theorem dX7_divisor_1 : decode cX7_divisor 1 = .ok (.istore_n 2, 1) := by decide +kernel
theorem dX7_divisor_2 : decode cX7_divisor 2 = .ok (.iload_n 1, 1) := by decide +kernel
theorem dX7_divisor_3 : decode cX7_divisor 3 = .ok (.istore_n 3, 1) := by decide +kernel
theorem dX7_divisor_4 : decode cX7_divisor 4 = .ok (.iload_n 3, 1) := by decide +kernel
theorem dX7_divisor_5 : decode cX7_divisor 5 = .ok (.ifCond .eq 16, 3) := by decide +kernel
theorem dX7_divisor_8 : decode cX7_divisor 8 = .ok (.iload_n 2, 1) := by decide +kernel
theorem dX7_divisor_9 : decode cX7_divisor 9 = .ok (.iload_n 3, 1) := by decide +kernel
theorem dX7_divisor_10 : decode cX7_divisor 10 = .ok (.irem, 1) := by decide +kernel
theorem dX7_divisor_11 : decode cX7_divisor 11 = .ok (.istore 4, 2) := by decide +kernel
theorem dX7_divisor_13 : decode cX7_divisor 13 = .ok (.iload_n 3, 1) := by decide +kernel
theorem dX7_divisor_14 : decode cX7_divisor 14 = .ok (.istore_n 2, 1) := by decide +kernel
theorem dX7_divisor_15 : decode cX7_divisor 15 = .ok (.iload 4, 2) := by decide +kernel
theorem dX7_divisor_17 : decode cX7_divisor 17 = .ok (.istore_n 3, 1) := by decide +kernel
theorem dX7_divisor_18 : decode cX7_divisor 18 = .ok (.goto (-14), 3) := by decide +kernel
theorem dX7_divisor_21 : decode cX7_divisor 21 = .ok (.iload_n 2, 1) := by decide +kernel
theorem dX7_divisor_22 : decode cX7_divisor 22 = .ok (.ireturn, 1) := by decide +kernel
theorem dX7_odds_0 : decode cX7_odds 0 = .ok (.aload_n 0, 1) := by decide +kernel
theorem dX7_odds_1 : decode cX7_odds 1 = .ok (.iload_n 1, 1) := by decide +kernel
theorem dX7_odds_2 : decode cX7_odds 2 = .ok (.invokevirtual 57, 3) := by decide +kernel
theorem dX7_odds_5 : decode cX7_odds 5 = .ok (.ifCond .eq 12, 3) := by decide +kernel
theorem dX7_odds_8 : decode cX7_odds 8 = .ok (.iload_n 2, 1) := by decide +kernel
theorem dX7_odds_9 : decode cX7_odds 9 = .ok (.iconst 0, 1) := by decide +kernel
theorem dX7_odds_10 : decode cX7_odds 10 = .ok (.iconst 1, 1) := by decide +kernel
theorem dX7_odds_11 : decode cX7_odds 11 = .ok (.invokestatic 53, 3) := by decide +kernel
theorem dX7_odds_14 : decode cX7_odds 14 = .ok (.ifCond .ne 9, 3) := by decide +kernel
theorem dX7_odds_17 : decode cX7_odds 17 = .ok (.aload_n 0, 1) := by decide +kernel
theorem dX7_odds_18 : decode cX7_odds 18 = .ok (.iconst 1, 1) := by decide +kernel
theorem dX7_odds_19 : decode cX7_odds 19 = .ok (.invokevirtual 61, 3) := by decide +kernel
theorem dX7_odds_22 : decode cX7_odds 22 = .ok (.ireturn, 1) := by decide +kernel
theorem dX7_odds_23 : decode cX7_odds 23 = .ok (.aload_n 0, 1) := by decide +kernel
theorem dX7_odds_24 : decode cX7_odds 24 = .ok (.getfield 7, 3) := by decide +kernel
theorem dX7_odds_27 : decode cX7_odds 27 = .ok (.iconst 4, 1) := by decide +kernel
theorem dX7_odds_28 : decode cX7_odds 28 = .ok (.iaload, 1) := by decide +kernel
theorem dX7_odds_29 : decode cX7_odds 29 = .ok (.iconst 1, 1) := by decide +kernel
theorem dX7_odds_30 : decode cX7_odds 30 = .ok (.isub, 1) := by decide +kernel
theorem dX7_odds_31 : decode cX7_odds 31 = .ok (.istore_n 3, 1) := by decide +kernel
theorem dX7_odds_32 : decode cX7_odds 32 = .ok (.iload_n 3, 1) := by decide +kernel
theorem dX7_odds_33 : decode cX7_odds 33 = .ok (.ifCond .ne 9, 3) := by decide +kernel
theorem dX7_odds_36 : decode cX7_odds 36 = .ok (.aload_n 0, 1) := by decide +kernel
theorem dX7_odds_37 : decode cX7_odds 37 = .ok (.iconst 3, 1) := by decide +kernel
theorem dX7_odds_38 : decode cX7_odds 38 = .ok (.invokevirtual 61, 3) := by decide +kernel
theorem dX7_odds_41 : decode cX7_odds 41 = .ok (.ireturn, 1) := by decide +kernel
theorem dX7_odds_42 : decode cX7_odds 42 = .ok (.iconst 0, 1) := by decide +kernel
theorem dX7_odds_43 : decode cX7_odds 43 = .ok (.istore 4, 2) := by decide +kernel
theorem dX7_odds_45 : decode cX7_odds 45 = .ok (.iconst 0, 1) := by decide +kernel
theorem dX7_odds_46 : decode cX7_odds 46 = .ok (.istore 5, 2) := by decide +kernel
theorem dX7_odds_48 : decode cX7_odds 48 = .ok (.iload 5, 2) := by decide +kernel
theorem dX7_odds_50 : decode cX7_odds 50 = .ok (.aload_n 0, 1) := by decide +kernel
theorem dX7_odds_51 : decode cX7_odds 51 = .ok (.getfield 7, 3) := by decide +kernel
theorem dX7_odds_54 : decode cX7_odds 54 = .ok (.iconst 4, 1) := by decide +kernel
theorem dX7_odds_55 : decode cX7_odds 55 = .ok (.iaload, 1) := by decide +kernel
theorem dX7_odds_56 : decode cX7_odds 56 = .ok (.if_icmp .ge 41, 3) := by decide +kernel
theorem dX7_odds_59 : decode cX7_odds 59 = .ok (.iload 4, 2) := by decide +kernel
theorem dX7_odds_61 : decode cX7_odds 61 = .ok (.iload 5, 2) := by decide +kernel
theorem dX7_odds_63 : decode cX7_odds 63 = .ok (.iload_n 1, 1) := by decide +kernel
theorem dX7_odds_64 : decode cX7_odds 64 = .ok (.if_icmp .eq 23, 3) := by decide +kernel
theorem dX7_odds_67 : decode cX7_odds 67 = .ok (.aload_n 0, 1) := by decide +kernel
theorem dX7_odds_68 : decode cX7_odds 68 = .ok (.iload 5, 2) := by decide +kernel
theorem dX7_odds_70 : decode cX7_odds 70 = .ok (.iload_n 1, 1) := by decide +kernel
theorem dX7_odds_71 : decode cX7_odds 71 = .ok (.invokevirtual 142, 3) := by decide +kernel
theorem dX7_odds_74 : decode cX7_odds 74 = .ok (.aload_n 0, 1) := by decide +kernel
theorem dX7_odds_75 : decode cX7_odds 75 = .ok (.iload_n 1, 1) := by decide +kernel
theorem dX7_odds_76 : decode cX7_odds 76 = .ok (.iconst 2, 1) := by decide +kernel
theorem dX7_odds_77 : decode cX7_odds 77 = .ok (.invokevirtual 120, 3) := by decide +kernel
theorem dX7_odds_80 : decode cX7_odds 80 = .ok (.if_icmp .le 7, 3) := by decide +kernel
theorem dX7_odds_83 : decode cX7_odds 83 = .ok (.iconst 1, 1) := by decide +kernel
theorem dX7_odds_84 : decode cX7_odds 84 = .ok (.goto 4, 3) := by decide +kernel
theorem dX7_odds_87 : decode cX7_odds 87 = .ok (.iconst 0, 1) := by decide +kernel
theorem dX7_odds_88 : decode cX7_odds 88 = .ok (.iadd, 1) := by decide +kernel
theorem dX7_odds_89 : decode cX7_odds 89 = .ok (.istore 4, 2) := by decide +kernel
theorem dX7_odds_91 : decode cX7_odds 91 = .ok (.iinc 5 1, 3) := by decide +kernel
theorem dX7_odds_94 : decode cX7_odds 94 = .ok (.goto (-46), 3) := by decide +kernel
theorem dX7_odds_97 : decode cX7_odds 97 = .ok (.iload 4, 2) := by decide +kernel
theorem dX7_odds_99 : decode cX7_odds 99 = .ok (.iload_n 3, 1) := by decide +kernel
theorem dX7_odds_100 : decode cX7_odds 100 = .ok (.invokestatic 207, 3) := by decide +kernel
theorem dX7_odds_103 : decode cX7_odds 103 = .ok (.istore 5, 2) := by decide +kernel
theorem dX7_odds_105 : decode cX7_odds 105 = .ok (.iload_n 2, 1) := by decide +kernel
theorem dX7_odds_106 : decode cX7_odds 106 = .ok (.ifCond .ne 11, 3) := by decide +kernel
theorem dX7_odds_109 : decode cX7_odds 109 = .ok (.iload 4, 2) := by decide +kernel
theorem dX7_odds_111 : decode cX7_odds 111 = .ok (.iload 5, 2) := by decide +kernel
theorem dX7_odds_113 : decode cX7_odds 113 = .ok (.idiv, 1) := by decide +kernel
theorem dX7_odds_114 : decode cX7_odds 114 = .ok (.goto 7, 3) := by decide +kernel
theorem dX7_odds_117 : decode cX7_odds 117 = .ok (.iload_n 3, 1) := by decide +kernel
theorem dX7_odds_118 : decode cX7_odds 118 = .ok (.iload 5, 2) := by decide +kernel
theorem dX7_odds_120 : decode cX7_odds 120 = .ok (.idiv, 1) := by decide +kernel
theorem dX7_odds_121 : decode cX7_odds 121 = .ok (.ireturn, 1) := by decide +kernel
theorem dX7_areNearSo_0 : decode cX7_areNearSo 0 = .ok (.aload_n 0, 1) := by decide +kernel
theorem dX7_areNearSo_1 : decode cX7_areNearSo 1 = .ok (.getfield 43, 3) := by decide +kernel
theorem dX7_areNearSo_4 : decode cX7_areNearSo 4 = .ok (.iload_n 1, 1) := by decide +kernel
theorem dX7_areNearSo_5 : decode cX7_areNearSo 5 = .ok (.iaload, 1) := by decide +kernel
theorem dX7_areNearSo_6 : decode cX7_areNearSo 6 = .ok (.aload_n 0, 1) := by decide +kernel
theorem dX7_areNearSo_7 : decode cX7_areNearSo 7 = .ok (.getfield 7, 3) := by decide +kernel
theorem dX7_areNearSo_10 : decode cX7_areNearSo 10 = .ok (.iconst 4, 1) := by decide +kernel
theorem dX7_areNearSo_11 : decode cX7_areNearSo 11 = .ok (.iaload, 1) := by decide +kernel
theorem dX7_areNearSo_12 : decode cX7_areNearSo 12 = .ok (.if_icmp .gt 7, 3) := by decide +kernel
theorem dX7_areNearSo_15 : decode cX7_areNearSo 15 = .ok (.iconst 1, 1) := by decide +kernel
theorem dX7_areNearSo_16 : decode cX7_areNearSo 16 = .ok (.goto 4, 3) := by decide +kernel
theorem dX7_areNearSo_19 : decode cX7_areNearSo 19 = .ok (.iconst 0, 1) := by decide +kernel
theorem dX7_areNearSo_20 : decode cX7_areNearSo 20 = .ok (.istore_n 2, 1) := by decide +kernel
theorem dX7_areNearSo_21 : decode cX7_areNearSo 21 = .ok (.iconst 0, 1) := by decide +kernel
theorem dX7_areNearSo_22 : decode cX7_areNearSo 22 = .ok (.istore_n 3, 1) := by decide +kernel
theorem dX7_areNearSo_23 : decode cX7_areNearSo 23 = .ok (.iload_n 3, 1) := by decide +kernel
theorem dX7_areNearSo_24 : decode cX7_areNearSo 24 = .ok (.aload_n 0, 1) := by decide +kernel
theorem dX7_areNearSo_25 : decode cX7_areNearSo 25 = .ok (.getfield 43, 3) := by decide +kernel
theorem dX7_areNearSo_28 : decode cX7_areNearSo 28 = .ok (.iload_n 1, 1) := by decide +kernel
theorem dX7_areNearSo_29 : decode cX7_areNearSo 29 = .ok (.iaload, 1) := by decide +kernel
theorem dX7_areNearSo_30 : decode cX7_areNearSo 30 = .ok (.if_icmp .ge 39, 3) := by decide +kernel
theorem dX7_areNearSo_33 : decode cX7_areNearSo 33 = .ok (.iload_n 2, 1) := by decide +kernel
theorem dX7_areNearSo_34 : decode cX7_areNearSo 34 = .ok (.ifCond .eq 35, 3) := by decide +kernel
theorem dX7_areNearSo_37 : decode cX7_areNearSo 37 = .ok (.aload_n 0, 1) := by decide +kernel
theorem dX7_areNearSo_38 : decode cX7_areNearSo 38 = .ok (.iload_n 3, 1) := by decide +kernel
theorem dX7_areNearSo_39 : decode cX7_areNearSo 39 = .ok (.iconst 2, 1) := by decide +kernel
theorem dX7_areNearSo_40 : decode cX7_areNearSo 40 = .ok (.invokevirtual 120, 3) := by decide +kernel
theorem dX7_areNearSo_43 : decode cX7_areNearSo 43 = .ok (.aload_n 0, 1) := by decide +kernel
theorem dX7_areNearSo_44 : decode cX7_areNearSo 44 = .ok (.getfield 46, 3) := by decide +kernel
theorem dX7_areNearSo_47 : decode cX7_areNearSo 47 = .ok (.bipush 24, 2) := by decide +kernel
theorem dX7_areNearSo_49 : decode cX7_areNearSo 49 = .ok (.iload_n 1, 1) := by decide +kernel
theorem dX7_areNearSo_50 : decode cX7_areNearSo 50 = .ok (.imul, 1) := by decide +kernel
theorem dX7_areNearSo_51 : decode cX7_areNearSo 51 = .ok (.iload_n 3, 1) := by decide +kernel
theorem dX7_areNearSo_52 : decode cX7_areNearSo 52 = .ok (.iadd, 1) := by decide +kernel
theorem dX7_areNearSo_53 : decode cX7_areNearSo 53 = .ok (.iaload, 1) := by decide +kernel
theorem dX7_areNearSo_54 : decode cX7_areNearSo 54 = .ok (.if_icmp .ne 7, 3) := by decide +kernel
theorem dX7_areNearSo_57 : decode cX7_areNearSo 57 = .ok (.iconst 1, 1) := by decide +kernel
theorem dX7_areNearSo_58 : decode cX7_areNearSo 58 = .ok (.goto 4, 3) := by decide +kernel
theorem dX7_areNearSo_61 : decode cX7_areNearSo 61 = .ok (.iconst 0, 1) := by decide +kernel
theorem dX7_areNearSo_62 : decode cX7_areNearSo 62 = .ok (.istore_n 2, 1) := by decide +kernel
theorem dX7_areNearSo_63 : decode cX7_areNearSo 63 = .ok (.iinc 3 1, 3) := by decide +kernel
theorem dX7_areNearSo_66 : decode cX7_areNearSo 66 = .ok (.goto (-43), 3) := by decide +kernel
theorem dX7_areNearSo_69 : decode cX7_areNearSo 69 = .ok (.iload_n 2, 1) := by decide +kernel
theorem dX7_areNearSo_70 : decode cX7_areNearSo 70 = .ok (.ireturn, 1) := by decide +kernel
theorem dX7_isSoBy_0 : decode cX7_isSoBy 0 = .ok (.aload_n 0, 1) := by decide +kernel
theorem dX7_isSoBy_1 : decode cX7_isSoBy 1 = .ok (.invokevirtual 191, 3) := by decide +kernel
theorem dX7_isSoBy_4 : decode cX7_isSoBy 4 = .ok (.aload_n 0, 1) := by decide +kernel
theorem dX7_isSoBy_5 : decode cX7_isSoBy 5 = .ok (.iload_n 3, 1) := by decide +kernel
theorem dX7_isSoBy_6 : decode cX7_isSoBy 6 = .ok (.iconst 3, 1) := by decide +kernel
theorem dX7_isSoBy_7 : decode cX7_isSoBy 7 = .ok (.iload 4, 2) := by decide +kernel
theorem dX7_isSoBy_9 : decode cX7_isSoBy 9 = .ok (.invokevirtual 151, 3) := by decide +kernel
theorem dX7_isSoBy_12 : decode cX7_isSoBy 12 = .ok (.aload_n 0, 1) := by decide +kernel
theorem dX7_isSoBy_13 : decode cX7_isSoBy 13 = .ok (.iload_n 2, 1) := by decide +kernel
theorem dX7_isSoBy_14 : decode cX7_isSoBy 14 = .ok (.invokevirtual 178, 3) := by decide +kernel
theorem dX7_isSoBy_17 : decode cX7_isSoBy 17 = .ok (.aload_n 0, 1) := by decide +kernel
theorem dX7_isSoBy_18 : decode cX7_isSoBy 18 = .ok (.iload_n 1, 1) := by decide +kernel
theorem dX7_isSoBy_19 : decode cX7_isSoBy 19 = .ok (.invokevirtual 210, 3) := by decide +kernel
theorem dX7_isSoBy_22 : decode cX7_isSoBy 22 = .ok (.istore 5, 2) := by decide +kernel
theorem dX7_isSoBy_24 : decode cX7_isSoBy 24 = .ok (.aload_n 0, 1) := by decide +kernel
theorem dX7_isSoBy_25 : decode cX7_isSoBy 25 = .ok (.invokevirtual 194, 3) := by decide +kernel
theorem dX7_isSoBy_28 : decode cX7_isSoBy 28 = .ok (.iload 5, 2) := by decide +kernel
theorem dX7_isSoBy_30 : decode cX7_isSoBy 30 = .ok (.ireturn, 1) := by decide +kernel
theorem dX7_began_0 : decode cX7_began 0 = .ok (.iload_n 2, 1) := by decide +kernel
theorem dX7_began_1 : decode cX7_began 1 = .ok (.iconst 0, 1) := by decide +kernel
theorem dX7_began_2 : decode cX7_began 2 = .ok (.bipush 20, 2) := by decide +kernel
theorem dX7_began_4 : decode cX7_began 4 = .ok (.invokestatic 53, 3) := by decide +kernel
theorem dX7_began_7 : decode cX7_began 7 = .ok (.ifCond .eq 20, 3) := by decide +kernel
theorem dX7_began_10 : decode cX7_began 10 = .ok (.iload_n 3, 1) := by decide +kernel
theorem dX7_began_11 : decode cX7_began 11 = .ok (.iconst 0, 1) := by decide +kernel
theorem dX7_began_12 : decode cX7_began 12 = .ok (.iconst 1, 1) := by decide +kernel
theorem dX7_began_13 : decode cX7_began 13 = .ok (.invokestatic 53, 3) := by decide +kernel
theorem dX7_began_16 : decode cX7_began 16 = .ok (.ifCond .eq 11, 3) := by decide +kernel
theorem dX7_began_19 : decode cX7_began 19 = .ok (.aload_n 0, 1) := by decide +kernel
theorem dX7_began_20 : decode cX7_began 20 = .ok (.iload_n 1, 1) := by decide +kernel
theorem dX7_began_21 : decode cX7_began 21 = .ok (.invokevirtual 213, 3) := by decide +kernel
theorem dX7_began_24 : decode cX7_began 24 = .ok (.goto 4, 3) := by decide +kernel
theorem dX7_began_27 : decode cX7_began 27 = .ok (.iconst 1, 1) := by decide +kernel
theorem dX7_began_28 : decode cX7_began 28 = .ok (.istore 4, 2) := by decide +kernel
theorem dX7_began_30 : decode cX7_began 30 = .ok (.iload 4, 2) := by decide +kernel
theorem dX7_began_32 : decode cX7_began 32 = .ok (.ifCond .eq 10, 3) := by decide +kernel
theorem dX7_began_35 : decode cX7_began 35 = .ok (.aload_n 0, 1) := by decide +kernel
theorem dX7_began_36 : decode cX7_began 36 = .ok (.iload 4, 2) := by decide +kernel
theorem dX7_began_38 : decode cX7_began 38 = .ok (.invokevirtual 61, 3) := by decide +kernel
theorem dX7_began_41 : decode cX7_began 41 = .ok (.ireturn, 1) := by decide +kernel
theorem dX7_began_42 : decode cX7_began 42 = .ok (.iconst 0, 1) := by decide +kernel
theorem dX7_began_43 : decode cX7_began 43 = .ok (.istore 5, 2) := by decide +kernel
theorem dX7_began_45 : decode cX7_began 45 = .ok (.iconst (-1), 1) := by decide +kernel
theorem dX7_began_46 : decode cX7_began 46 = .ok (.istore 6, 2) := by decide +kernel
theorem dX7_began_48 : decode cX7_began 48 = .ok (.bipush 10, 2) := by decide +kernel
theorem dX7_began_50 : decode cX7_began 50 = .ok (.aload_n 0, 1) := by decide +kernel
theorem dX7_began_51 : decode cX7_began 51 = .ok (.getfield 7, 3) := by decide +kernel
theorem dX7_began_54 : decode cX7_began 54 = .ok (.iconst 4, 1) := by decide +kernel
theorem dX7_began_55 : decode cX7_began 55 = .ok (.iaload, 1) := by decide +kernel
theorem dX7_began_56 : decode cX7_began 56 = .ok (.imul, 1) := by decide +kernel
theorem dX7_began_57 : decode cX7_began 57 = .ok (.iconst 1, 1) := by decide +kernel
theorem dX7_began_58 : decode cX7_began 58 = .ok (.isub, 1) := by decide +kernel
theorem dX7_began_59 : decode cX7_began 59 = .ok (.istore 7, 2) := by decide +kernel
theorem dX7_began_61 : decode cX7_began 61 = .ok (.iload 7, 2) := by decide +kernel
theorem dX7_began_63 : decode cX7_began 63 = .ok (.ifCond .le 72, 3) := by decide +kernel
theorem dX7_began_66 : decode cX7_began 66 = .ok (.iload 7, 2) := by decide +kernel
theorem dX7_began_68 : decode cX7_began 68 = .ok (.bipush 10, 2) := by decide +kernel
theorem dX7_began_70 : decode cX7_began 70 = .ok (.irem, 1) := by decide +kernel
theorem dX7_began_71 : decode cX7_began 71 = .ok (.ifCond .le 26, 3) := by decide +kernel
theorem dX7_began_74 : decode cX7_began 74 = .ok (.aload_n 0, 1) := by decide +kernel
theorem dX7_began_75 : decode cX7_began 75 = .ok (.iload_n 1, 1) := by decide +kernel
theorem dX7_began_76 : decode cX7_began 76 = .ok (.iload_n 2, 1) := by decide +kernel
theorem dX7_began_77 : decode cX7_began 77 = .ok (.iload 7, 2) := by decide +kernel
theorem dX7_began_79 : decode cX7_began 79 = .ok (.bipush 10, 2) := by decide +kernel
theorem dX7_began_81 : decode cX7_began 81 = .ok (.idiv, 1) := by decide +kernel
theorem dX7_began_82 : decode cX7_began 82 = .ok (.iload 7, 2) := by decide +kernel
theorem dX7_began_84 : decode cX7_began 84 = .ok (.bipush 10, 2) := by decide +kernel
theorem dX7_began_86 : decode cX7_began 86 = .ok (.irem, 1) := by decide +kernel
theorem dX7_began_87 : decode cX7_began 87 = .ok (.invokevirtual 216, 3) := by decide +kernel
theorem dX7_began_90 : decode cX7_began 90 = .ok (.ifCond .eq 7, 3) := by decide +kernel
theorem dX7_began_93 : decode cX7_began 93 = .ok (.iconst 1, 1) := by decide +kernel
theorem dX7_began_94 : decode cX7_began 94 = .ok (.goto 4, 3) := by decide +kernel
theorem dX7_began_97 : decode cX7_began 97 = .ok (.iconst 0, 1) := by decide +kernel
theorem dX7_began_98 : decode cX7_began 98 = .ok (.istore 8, 2) := by decide +kernel
theorem dX7_began_100 : decode cX7_began 100 = .ok (.iload 5, 2) := by decide +kernel
theorem dX7_began_102 : decode cX7_began 102 = .ok (.iload 8, 2) := by decide +kernel
theorem dX7_began_104 : decode cX7_began 104 = .ok (.ifCond .eq 7, 3) := by decide +kernel
theorem dX7_began_107 : decode cX7_began 107 = .ok (.iconst 1, 1) := by decide +kernel
theorem dX7_began_108 : decode cX7_began 108 = .ok (.goto 4, 3) := by decide +kernel
theorem dX7_began_111 : decode cX7_began 111 = .ok (.iconst 0, 1) := by decide +kernel
theorem dX7_began_112 : decode cX7_began 112 = .ok (.iadd, 1) := by decide +kernel
theorem dX7_began_113 : decode cX7_began 113 = .ok (.istore 5, 2) := by decide +kernel
theorem dX7_began_115 : decode cX7_began 115 = .ok (.iload 8, 2) := by decide +kernel
theorem dX7_began_117 : decode cX7_began 117 = .ok (.ifCond .eq 8, 3) := by decide +kernel
theorem dX7_began_120 : decode cX7_began 120 = .ok (.iload 7, 2) := by decide +kernel
theorem dX7_began_122 : decode cX7_began 122 = .ok (.goto 5, 3) := by decide +kernel
theorem dX7_began_125 : decode cX7_began 125 = .ok (.iload 6, 2) := by decide +kernel
theorem dX7_began_127 : decode cX7_began 127 = .ok (.istore 6, 2) := by decide +kernel
theorem dX7_began_129 : decode cX7_began 129 = .ok (.iinc 7 (-1), 3) := by decide +kernel
theorem dX7_began_132 : decode cX7_began 132 = .ok (.goto (-71), 3) := by decide +kernel
theorem dX7_began_135 : decode cX7_began 135 = .ok (.iload_n 3, 1) := by decide +kernel
theorem dX7_began_136 : decode cX7_began 136 = .ok (.ifCond .ne 8, 3) := by decide +kernel
theorem dX7_began_139 : decode cX7_began 139 = .ok (.iload 5, 2) := by decide +kernel
theorem dX7_began_141 : decode cX7_began 141 = .ok (.goto 19, 3) := by decide +kernel
theorem dX7_began_144 : decode cX7_began 144 = .ok (.iload 6, 2) := by decide +kernel
theorem dX7_began_146 : decode cX7_began 146 = .ok (.iconst (-1), 1) := by decide +kernel
theorem dX7_began_147 : decode cX7_began 147 = .ok (.if_icmp .ne 11, 3) := by decide +kernel
theorem dX7_began_150 : decode cX7_began 150 = .ok (.aload_n 0, 1) := by decide +kernel
theorem dX7_began_151 : decode cX7_began 151 = .ok (.iconst 2, 1) := by decide +kernel
theorem dX7_began_152 : decode cX7_began 152 = .ok (.invokevirtual 61, 3) := by decide +kernel
theorem dX7_began_155 : decode cX7_began 155 = .ok (.goto 5, 3) := by decide +kernel
theorem dX7_began_158 : decode cX7_began 158 = .ok (.iload 6, 2) := by decide +kernel
theorem dX7_began_160 : decode cX7_began 160 = .ok (.ireturn, 1) := by decide +kernel
theorem dX7_fits_0 : decode cX7_fits 0 = .ok (.aload_n 0, 1) := by decide +kernel
theorem dX7_fits_1 : decode cX7_fits 1 = .ok (.iload_n 1, 1) := by decide +kernel
theorem dX7_fits_2 : decode cX7_fits 2 = .ok (.invokevirtual 213, 3) := by decide +kernel
theorem dX7_fits_5 : decode cX7_fits 5 = .ok (.istore_n 2, 1) := by decide +kernel
theorem dX7_fits_6 : decode cX7_fits 6 = .ok (.iload_n 2, 1) := by decide +kernel
theorem dX7_fits_7 : decode cX7_fits 7 = .ok (.ifCond .eq 9, 3) := by decide +kernel
theorem dX7_fits_10 : decode cX7_fits 10 = .ok (.aload_n 0, 1) := by decide +kernel
theorem dX7_fits_11 : decode cX7_fits 11 = .ok (.iload_n 2, 1) := by decide +kernel
theorem dX7_fits_12 : decode cX7_fits 12 = .ok (.invokevirtual 61, 3) := by decide +kernel
theorem dX7_fits_15 : decode cX7_fits 15 = .ok (.ireturn, 1) := by decide +kernel
theorem dX7_fits_16 : decode cX7_fits 16 = .ok (.aload_n 0, 1) := by decide +kernel
theorem dX7_fits_17 : decode cX7_fits 17 = .ok (.invokevirtual 191, 3) := by decide +kernel
theorem dX7_fits_20 : decode cX7_fits 20 = .ok (.iconst 0, 1) := by decide +kernel
theorem dX7_fits_21 : decode cX7_fits 21 = .ok (.istore_n 3, 1) := by decide +kernel
theorem dX7_fits_22 : decode cX7_fits 22 = .ok (.iload_n 3, 1) := by decide +kernel
theorem dX7_fits_23 : decode cX7_fits 23 = .ok (.bipush 100, 2) := by decide +kernel
theorem dX7_fits_25 : decode cX7_fits 25 = .ok (.if_icmp .gt 21, 3) := by decide +kernel
theorem dX7_fits_28 : decode cX7_fits 28 = .ok (.aload_n 0, 1) := by decide +kernel
theorem dX7_fits_29 : decode cX7_fits 29 = .ok (.iload_n 1, 1) := by decide +kernel
theorem dX7_fits_30 : decode cX7_fits 30 = .ok (.invokevirtual 210, 3) := by decide +kernel
theorem dX7_fits_33 : decode cX7_fits 33 = .ok (.ifCond .ne 13, 3) := by decide +kernel
theorem dX7_fits_36 : decode cX7_fits 36 = .ok (.aload_n 0, 1) := by decide +kernel
theorem dX7_fits_37 : decode cX7_fits 37 = .ok (.invokevirtual 155, 3) := by decide +kernel
theorem dX7_fits_40 : decode cX7_fits 40 = .ok (.iinc 3 1, 3) := by decide +kernel
theorem dX7_fits_43 : decode cX7_fits 43 = .ok (.goto (-21), 3) := by decide +kernel
theorem dX7_fits_46 : decode cX7_fits 46 = .ok (.aload_n 0, 1) := by decide +kernel
theorem dX7_fits_47 : decode cX7_fits 47 = .ok (.invokevirtual 194, 3) := by decide +kernel
theorem dX7_fits_50 : decode cX7_fits 50 = .ok (.iload_n 3, 1) := by decide +kernel
theorem dX7_fits_51 : decode cX7_fits 51 = .ok (.bipush 100, 2) := by decide +kernel
theorem dX7_fits_53 : decode cX7_fits 53 = .ok (.if_icmp .le 11, 3) := by decide +kernel
theorem dX7_fits_56 : decode cX7_fits 56 = .ok (.aload_n 0, 1) := by decide +kernel
theorem dX7_fits_57 : decode cX7_fits 57 = .ok (.iconst 2, 1) := by decide +kernel
theorem dX7_fits_58 : decode cX7_fits 58 = .ok (.invokevirtual 61, 3) := by decide +kernel
theorem dX7_fits_61 : decode cX7_fits 61 = .ok (.goto 4, 3) := by decide +kernel
theorem dX7_fits_64 : decode cX7_fits 64 = .ok (.iload_n 3, 1) := by decide +kernel
theorem dX7_fits_65 : decode cX7_fits 65 = .ok (.ireturn, 1) := by decide +kernel
theorem dX7_starts_0 : decode cX7_starts 0 = .ok (.aload_n 0, 1) := by decide +kernel
theorem dX7_starts_1 : decode cX7_starts 1 = .ok (.getfield 219, 3) := by decide +kernel
theorem dX7_starts_4 : decode cX7_starts 4 = .ok (.bipush 30, 2) := by decide +kernel
theorem dX7_starts_6 : decode cX7_starts 6 = .ok (.if_icmp .ge 23, 3) := by decide +kernel
theorem dX7_starts_9 : decode cX7_starts 9 = .ok (.aload_n 0, 1) := by decide +kernel
theorem dX7_starts_10 : decode cX7_starts 10 = .ok (.getfield 37, 3) := by decide +kernel
theorem dX7_starts_13 : decode cX7_starts 13 = .ok (.aload_n 0, 1) := by decide +kernel
theorem dX7_starts_14 : decode cX7_starts 14 = .ok (.getfield 219, 3) := by decide +kernel
theorem dX7_starts_17 : decode cX7_starts 17 = .ok (.iload_n 1, 1) := by decide +kernel
theorem dX7_starts_18 : decode cX7_starts 18 = .ok (.iastore, 1) := by decide +kernel
theorem dX7_starts_19 : decode cX7_starts 19 = .ok (.aload_n 0, 1) := by decide +kernel
theorem dX7_starts_20 : decode cX7_starts 20 = .ok (.dup, 1) := by decide +kernel
theorem dX7_starts_21 : decode cX7_starts 21 = .ok (.getfield 219, 3) := by decide +kernel
theorem dX7_starts_24 : decode cX7_starts 24 = .ok (.iconst 1, 1) := by decide +kernel
theorem dX7_starts_25 : decode cX7_starts 25 = .ok (.iadd, 1) := by decide +kernel
theorem dX7_starts_26 : decode cX7_starts 26 = .ok (.putfield 219, 3) := by decide +kernel
theorem dX7_starts_29 : decode cX7_starts 29 = .ok (.return_, 1) := by decide +kernel
theorem dX7_above_0 : decode cX7_above 0 = .ok (.iload_n 0, 1) := by decide +kernel
theorem dX7_above_1 : decode cX7_above 1 = .ok (.iconst 4, 1) := by decide +kernel
theorem dX7_above_2 : decode cX7_above 2 = .ok (.if_icmp .ne 7, 3) := by decide +kernel
theorem dX7_above_5 : decode cX7_above 5 = .ok (.iconst 1, 1) := by decide +kernel
theorem dX7_above_6 : decode cX7_above 6 = .ok (.goto 13, 3) := by decide +kernel
theorem dX7_above_9 : decode cX7_above 9 = .ok (.iload_n 0, 1) := by decide +kernel
theorem dX7_above_10 : decode cX7_above 10 = .ok (.iconst 5, 1) := by decide +kernel
theorem dX7_above_11 : decode cX7_above 11 = .ok (.if_icmp .ne 7, 3) := by decide +kernel
theorem dX7_above_14 : decode cX7_above 14 = .ok (.iconst 2, 1) := by decide +kernel
theorem dX7_above_15 : decode cX7_above 15 = .ok (.goto 4, 3) := by decide +kernel
theorem dX7_above_18 : decode cX7_above 18 = .ok (.iconst 0, 1) := by decide +kernel
theorem dX7_above_19 : decode cX7_above 19 = .ok (.ireturn, 1) := by decide +kernel
theorem dX7_kindNow_0 : decode cX7_kindNow 0 = .ok (.aload_n 0, 1) := by decide +kernel
theorem dX7_kindNow_1 : decode cX7_kindNow 1 = .ok (.aload_n 0, 1) := by decide +kernel
theorem dX7_kindNow_2 : decode cX7_kindNow 2 = .ok (.getfield 222, 3) := by decide +kernel
theorem dX7_kindNow_5 : decode cX7_kindNow 5 = .ok (.iconst 0, 1) := by decide +kernel
theorem dX7_kindNow_6 : decode cX7_kindNow 6 = .ok (.invokevirtual 120, 3) := by decide +kernel
theorem dX7_kindNow_9 : decode cX7_kindNow 9 = .ok (.ireturn, 1) := by decide +kernel
theorem dX7_mNow_0 : decode cX7_mNow 0 = .ok (.aload_n 0, 1) := by decide +kernel
theorem dX7_mNow_1 : decode cX7_mNow 1 = .ok (.aload_n 0, 1) := by decide +kernel
theorem dX7_mNow_2 : decode cX7_mNow 2 = .ok (.getfield 222, 3) := by decide +kernel
theorem dX7_mNow_5 : decode cX7_mNow 5 = .ok (.iconst 1, 1) := by decide +kernel
theorem dX7_mNow_6 : decode cX7_mNow 6 = .ok (.invokevirtual 120, 3) := by decide +kernel
theorem dX7_mNow_9 : decode cX7_mNow 9 = .ok (.ireturn, 1) := by decide +kernel
theorem dX7_sighsAs_0 : decode cX7_sighsAs 0 = .ok (.iload_n 1, 1) := by decide +kernel
theorem dX7_sighsAs_1 : decode cX7_sighsAs 1 = .ok (.tableswitch 101 0 6 #[43, 56, 101, 101, 74, 101, 92], 43) := by decide +kernel
theorem dX7_sighsAs_44 : decode cX7_sighsAs 44 = .ok (.aload_n 0, 1) := by decide +kernel
theorem dX7_sighsAs_45 : decode cX7_sighsAs 45 = .ok (.bipush 10, 2) := by decide +kernel
theorem dX7_sighsAs_47 : decode cX7_sighsAs 47 = .ok (.invokevirtual 225, 3) := by decide +kernel
theorem dX7_sighsAs_50 : decode cX7_sighsAs 50 = .ok (.iload_n 2, 1) := by decide +kernel
theorem dX7_sighsAs_51 : decode cX7_sighsAs 51 = .ok (.aload_n 0, 1) := by decide +kernel
theorem dX7_sighsAs_52 : decode cX7_sighsAs 52 = .ok (.getfield 222, 3) := by decide +kernel
theorem dX7_sighsAs_55 : decode cX7_sighsAs 55 = .ok (.iadd, 1) := by decide +kernel
theorem dX7_sighsAs_56 : decode cX7_sighsAs 56 = .ok (.ireturn, 1) := by decide +kernel
theorem dX7_sighsAs_57 : decode cX7_sighsAs 57 = .ok (.aload_n 0, 1) := by decide +kernel
theorem dX7_sighsAs_58 : decode cX7_sighsAs 58 = .ok (.bipush 20, 2) := by decide +kernel
theorem dX7_sighsAs_60 : decode cX7_sighsAs 60 = .ok (.invokevirtual 225, 3) := by decide +kernel
theorem dX7_sighsAs_63 : decode cX7_sighsAs 63 = .ok (.aload_n 0, 1) := by decide +kernel
theorem dX7_sighsAs_64 : decode cX7_sighsAs 64 = .ok (.iconst 1, 1) := by decide +kernel
theorem dX7_sighsAs_65 : decode cX7_sighsAs 65 = .ok (.invokestatic 165, 3) := by decide +kernel
theorem dX7_sighsAs_68 : decode cX7_sighsAs 68 = .ok (.iload_n 2, 1) := by decide +kernel
theorem dX7_sighsAs_69 : decode cX7_sighsAs 69 = .ok (.invokevirtual 228, 3) := by decide +kernel
theorem dX7_sighsAs_72 : decode cX7_sighsAs 72 = .ok (.iconst 4, 1) := by decide +kernel
theorem dX7_sighsAs_73 : decode cX7_sighsAs 73 = .ok (.isub, 1) := by decide +kernel
theorem dX7_sighsAs_74 : decode cX7_sighsAs 74 = .ok (.ireturn, 1) := by decide +kernel
theorem dX7_sighsAs_75 : decode cX7_sighsAs 75 = .ok (.aload_n 0, 1) := by decide +kernel
theorem dX7_sighsAs_76 : decode cX7_sighsAs 76 = .ok (.bipush 50, 2) := by decide +kernel
theorem dX7_sighsAs_78 : decode cX7_sighsAs 78 = .ok (.invokevirtual 225, 3) := by decide +kernel
theorem dX7_sighsAs_81 : decode cX7_sighsAs 81 = .ok (.aload_n 0, 1) := by decide +kernel
theorem dX7_sighsAs_82 : decode cX7_sighsAs 82 = .ok (.iconst 4, 1) := by decide +kernel
theorem dX7_sighsAs_83 : decode cX7_sighsAs 83 = .ok (.invokestatic 165, 3) := by decide +kernel
theorem dX7_sighsAs_86 : decode cX7_sighsAs 86 = .ok (.iload_n 2, 1) := by decide +kernel
theorem dX7_sighsAs_87 : decode cX7_sighsAs 87 = .ok (.invokevirtual 228, 3) := by decide +kernel
theorem dX7_sighsAs_90 : decode cX7_sighsAs 90 = .ok (.iconst 3, 1) := by decide +kernel
theorem dX7_sighsAs_91 : decode cX7_sighsAs 91 = .ok (.imul, 1) := by decide +kernel
theorem dX7_sighsAs_92 : decode cX7_sighsAs 92 = .ok (.ireturn, 1) := by decide +kernel
theorem dX7_sighsAs_93 : decode cX7_sighsAs 93 = .ok (.aload_n 0, 1) := by decide +kernel
theorem dX7_sighsAs_94 : decode cX7_sighsAs 94 = .ok (.bipush 70, 2) := by decide +kernel
theorem dX7_sighsAs_96 : decode cX7_sighsAs 96 = .ok (.invokevirtual 225, 3) := by decide +kernel
theorem dX7_sighsAs_99 : decode cX7_sighsAs 99 = .ok (.bipush 9, 2) := by decide +kernel
theorem dX7_sighsAs_101 : decode cX7_sighsAs 101 = .ok (.ireturn, 1) := by decide +kernel
theorem dX7_sighsAs_102 : decode cX7_sighsAs 102 = .ok (.aload_n 0, 1) := by decide +kernel
theorem dX7_sighsAs_103 : decode cX7_sighsAs 103 = .ok (.iload_n 1, 1) := by decide +kernel
theorem dX7_sighsAs_104 : decode cX7_sighsAs 104 = .ok (.invokestatic 165, 3) := by decide +kernel
theorem dX7_sighsAs_107 : decode cX7_sighsAs 107 = .ok (.iload_n 2, 1) := by decide +kernel
theorem dX7_sighsAs_108 : decode cX7_sighsAs 108 = .ok (.invokevirtual 228, 3) := by decide +kernel
theorem dX7_sighsAs_111 : decode cX7_sighsAs 111 = .ok (.ireturn, 1) := by decide +kernel
theorem dX7_stirsAs_0 : decode cX7_stirsAs 0 = .ok (.iload_n 1, 1) := by decide +kernel
theorem dX7_stirsAs_1 : decode cX7_stirsAs 1 = .ok (.tableswitch 119 0 6 #[43, 119, 61, 119, 119, 79, 97], 43) := by decide +kernel
theorem dX7_stirsAs_44 : decode cX7_stirsAs 44 = .ok (.aload_n 0, 1) := by decide +kernel
theorem dX7_stirsAs_45 : decode cX7_stirsAs 45 = .ok (.bipush 11, 2) := by decide +kernel
theorem dX7_stirsAs_47 : decode cX7_stirsAs 47 = .ok (.invokevirtual 225, 3) := by decide +kernel
theorem dX7_stirsAs_50 : decode cX7_stirsAs 50 = .ok (.aload_n 0, 1) := by decide +kernel
theorem dX7_stirsAs_51 : decode cX7_stirsAs 51 = .ok (.aload_n 0, 1) := by decide +kernel
theorem dX7_stirsAs_52 : decode cX7_stirsAs 52 = .ok (.invokevirtual 231, 3) := by decide +kernel
theorem dX7_stirsAs_55 : decode cX7_stirsAs 55 = .ok (.iload_n 2, 1) := by decide +kernel
theorem dX7_stirsAs_56 : decode cX7_stirsAs 56 = .ok (.invokevirtual 228, 3) := by decide +kernel
theorem dX7_stirsAs_59 : decode cX7_stirsAs 59 = .ok (.iconst 2, 1) := by decide +kernel
theorem dX7_stirsAs_60 : decode cX7_stirsAs 60 = .ok (.imul, 1) := by decide +kernel
theorem dX7_stirsAs_61 : decode cX7_stirsAs 61 = .ok (.ireturn, 1) := by decide +kernel
theorem dX7_stirsAs_62 : decode cX7_stirsAs 62 = .ok (.aload_n 0, 1) := by decide +kernel
theorem dX7_stirsAs_63 : decode cX7_stirsAs 63 = .ok (.bipush 30, 2) := by decide +kernel
theorem dX7_stirsAs_65 : decode cX7_stirsAs 65 = .ok (.invokevirtual 225, 3) := by decide +kernel
theorem dX7_stirsAs_68 : decode cX7_stirsAs 68 = .ok (.iconst 0, 1) := by decide +kernel
theorem dX7_stirsAs_69 : decode cX7_stirsAs 69 = .ok (.aload_n 0, 1) := by decide +kernel
theorem dX7_stirsAs_70 : decode cX7_stirsAs 70 = .ok (.iconst 2, 1) := by decide +kernel
theorem dX7_stirsAs_71 : decode cX7_stirsAs 71 = .ok (.invokestatic 165, 3) := by decide +kernel
theorem dX7_stirsAs_74 : decode cX7_stirsAs 74 = .ok (.iload_n 2, 1) := by decide +kernel
theorem dX7_stirsAs_75 : decode cX7_stirsAs 75 = .ok (.invokevirtual 234, 3) := by decide +kernel
theorem dX7_stirsAs_78 : decode cX7_stirsAs 78 = .ok (.isub, 1) := by decide +kernel
theorem dX7_stirsAs_79 : decode cX7_stirsAs 79 = .ok (.ireturn, 1) := by decide +kernel
theorem dX7_stirsAs_80 : decode cX7_stirsAs 80 = .ok (.aload_n 0, 1) := by decide +kernel
theorem dX7_stirsAs_81 : decode cX7_stirsAs 81 = .ok (.bipush 60, 2) := by decide +kernel
theorem dX7_stirsAs_83 : decode cX7_stirsAs 83 = .ok (.invokevirtual 225, 3) := by decide +kernel
theorem dX7_stirsAs_86 : decode cX7_stirsAs 86 = .ok (.aload_n 0, 1) := by decide +kernel
theorem dX7_stirsAs_87 : decode cX7_stirsAs 87 = .ok (.iconst 5, 1) := by decide +kernel
theorem dX7_stirsAs_88 : decode cX7_stirsAs 88 = .ok (.invokestatic 165, 3) := by decide +kernel
theorem dX7_stirsAs_91 : decode cX7_stirsAs 91 = .ok (.iload_n 2, 1) := by decide +kernel
theorem dX7_stirsAs_92 : decode cX7_stirsAs 92 = .ok (.iconst 1, 1) := by decide +kernel
theorem dX7_stirsAs_93 : decode cX7_stirsAs 93 = .ok (.iadd, 1) := by decide +kernel
theorem dX7_stirsAs_94 : decode cX7_stirsAs 94 = .ok (.invokevirtual 234, 3) := by decide +kernel
theorem dX7_stirsAs_97 : decode cX7_stirsAs 97 = .ok (.ireturn, 1) := by decide +kernel
theorem dX7_stirsAs_98 : decode cX7_stirsAs 98 = .ok (.aload_n 0, 1) := by decide +kernel
theorem dX7_stirsAs_99 : decode cX7_stirsAs 99 = .ok (.bipush 71, 2) := by decide +kernel
theorem dX7_stirsAs_101 : decode cX7_stirsAs 101 = .ok (.invokevirtual 225, 3) := by decide +kernel
theorem dX7_stirsAs_104 : decode cX7_stirsAs 104 = .ok (.aload_n 0, 1) := by decide +kernel
theorem dX7_stirsAs_105 : decode cX7_stirsAs 105 = .ok (.bipush 6, 2) := by decide +kernel
theorem dX7_stirsAs_107 : decode cX7_stirsAs 107 = .ok (.invokestatic 165, 3) := by decide +kernel
theorem dX7_stirsAs_110 : decode cX7_stirsAs 110 = .ok (.iload_n 2, 1) := by decide +kernel
theorem dX7_stirsAs_111 : decode cX7_stirsAs 111 = .ok (.invokevirtual 234, 3) := by decide +kernel
theorem dX7_stirsAs_114 : decode cX7_stirsAs 114 = .ok (.aload_n 0, 1) := by decide +kernel
theorem dX7_stirsAs_115 : decode cX7_stirsAs 115 = .ok (.invokevirtual 237, 3) := by decide +kernel
theorem dX7_stirsAs_118 : decode cX7_stirsAs 118 = .ok (.iadd, 1) := by decide +kernel
theorem dX7_stirsAs_119 : decode cX7_stirsAs 119 = .ok (.ireturn, 1) := by decide +kernel
theorem dX7_stirsAs_120 : decode cX7_stirsAs 120 = .ok (.aload_n 0, 1) := by decide +kernel
theorem dX7_stirsAs_121 : decode cX7_stirsAs 121 = .ok (.iload_n 1, 1) := by decide +kernel
theorem dX7_stirsAs_122 : decode cX7_stirsAs 122 = .ok (.invokestatic 165, 3) := by decide +kernel
theorem dX7_stirsAs_125 : decode cX7_stirsAs 125 = .ok (.iload_n 2, 1) := by decide +kernel
theorem dX7_stirsAs_126 : decode cX7_stirsAs 126 = .ok (.invokevirtual 234, 3) := by decide +kernel
theorem dX7_stirsAs_129 : decode cX7_stirsAs 129 = .ok (.ireturn, 1) := by decide +kernel
theorem dX7_callsAs_0 : decode cX7_callsAs 0 = .ok (.iload_n 1, 1) := by decide +kernel
theorem dX7_callsAs_1 : decode cX7_callsAs 1 = .ok (.tableswitch 95 0 4 #[35, 95, 95, 56, 74], 35) := by decide +kernel
theorem dX7_callsAs_36 : decode cX7_callsAs 36 = .ok (.aload_n 0, 1) := by decide +kernel
theorem dX7_callsAs_37 : decode cX7_callsAs 37 = .ok (.bipush 12, 2) := by decide +kernel
theorem dX7_callsAs_39 : decode cX7_callsAs 39 = .ok (.invokevirtual 225, 3) := by decide +kernel
theorem dX7_callsAs_42 : decode cX7_callsAs 42 = .ok (.aload_n 0, 1) := by decide +kernel
theorem dX7_callsAs_43 : decode cX7_callsAs 43 = .ok (.aload_n 0, 1) := by decide +kernel
theorem dX7_callsAs_44 : decode cX7_callsAs 44 = .ok (.invokevirtual 231, 3) := by decide +kernel
theorem dX7_callsAs_47 : decode cX7_callsAs 47 = .ok (.iload_n 2, 1) := by decide +kernel
theorem dX7_callsAs_48 : decode cX7_callsAs 48 = .ok (.invokevirtual 234, 3) := by decide +kernel
theorem dX7_callsAs_51 : decode cX7_callsAs 51 = .ok (.aload_n 0, 1) := by decide +kernel
theorem dX7_callsAs_52 : decode cX7_callsAs 52 = .ok (.invokevirtual 237, 3) := by decide +kernel
theorem dX7_callsAs_55 : decode cX7_callsAs 55 = .ok (.isub, 1) := by decide +kernel
theorem dX7_callsAs_56 : decode cX7_callsAs 56 = .ok (.ireturn, 1) := by decide +kernel
theorem dX7_callsAs_57 : decode cX7_callsAs 57 = .ok (.aload_n 0, 1) := by decide +kernel
theorem dX7_callsAs_58 : decode cX7_callsAs 58 = .ok (.bipush 40, 2) := by decide +kernel
theorem dX7_callsAs_60 : decode cX7_callsAs 60 = .ok (.invokevirtual 225, 3) := by decide +kernel
theorem dX7_callsAs_63 : decode cX7_callsAs 63 = .ok (.aload_n 0, 1) := by decide +kernel
theorem dX7_callsAs_64 : decode cX7_callsAs 64 = .ok (.iconst 3, 1) := by decide +kernel
theorem dX7_callsAs_65 : decode cX7_callsAs 65 = .ok (.invokestatic 165, 3) := by decide +kernel
theorem dX7_callsAs_68 : decode cX7_callsAs 68 = .ok (.iload_n 2, 1) := by decide +kernel
theorem dX7_callsAs_69 : decode cX7_callsAs 69 = .ok (.iconst 2, 1) := by decide +kernel
theorem dX7_callsAs_70 : decode cX7_callsAs 70 = .ok (.idiv, 1) := by decide +kernel
theorem dX7_callsAs_71 : decode cX7_callsAs 71 = .ok (.invokevirtual 240, 3) := by decide +kernel
theorem dX7_callsAs_74 : decode cX7_callsAs 74 = .ok (.ireturn, 1) := by decide +kernel
theorem dX7_callsAs_75 : decode cX7_callsAs 75 = .ok (.aload_n 0, 1) := by decide +kernel
theorem dX7_callsAs_76 : decode cX7_callsAs 76 = .ok (.bipush 51, 2) := by decide +kernel
theorem dX7_callsAs_78 : decode cX7_callsAs 78 = .ok (.invokevirtual 225, 3) := by decide +kernel
theorem dX7_callsAs_81 : decode cX7_callsAs 81 = .ok (.aload_n 0, 1) := by decide +kernel
theorem dX7_callsAs_82 : decode cX7_callsAs 82 = .ok (.iconst 4, 1) := by decide +kernel
theorem dX7_callsAs_83 : decode cX7_callsAs 83 = .ok (.invokestatic 165, 3) := by decide +kernel
theorem dX7_callsAs_86 : decode cX7_callsAs 86 = .ok (.iload_n 2, 1) := by decide +kernel
theorem dX7_callsAs_87 : decode cX7_callsAs 87 = .ok (.invokevirtual 240, 3) := by decide +kernel
theorem dX7_callsAs_90 : decode cX7_callsAs 90 = .ok (.aload_n 0, 1) := by decide +kernel
theorem dX7_callsAs_91 : decode cX7_callsAs 91 = .ok (.getfield 222, 3) := by decide +kernel
theorem dX7_callsAs_94 : decode cX7_callsAs 94 = .ok (.ixor, 1) := by decide +kernel
theorem dX7_callsAs_95 : decode cX7_callsAs 95 = .ok (.ireturn, 1) := by decide +kernel
theorem dX7_callsAs_96 : decode cX7_callsAs 96 = .ok (.aload_n 0, 1) := by decide +kernel
theorem dX7_callsAs_97 : decode cX7_callsAs 97 = .ok (.iload_n 1, 1) := by decide +kernel
theorem dX7_callsAs_98 : decode cX7_callsAs 98 = .ok (.invokestatic 165, 3) := by decide +kernel
theorem dX7_callsAs_101 : decode cX7_callsAs 101 = .ok (.iload_n 2, 1) := by decide +kernel
theorem dX7_callsAs_102 : decode cX7_callsAs 102 = .ok (.invokevirtual 240, 3) := by decide +kernel
theorem dX7_callsAs_105 : decode cX7_callsAs 105 = .ok (.ireturn, 1) := by decide +kernel
theorem dX7_partsAs_0 : decode cX7_partsAs 0 = .ok (.iload_n 1, 1) := by decide +kernel
theorem dX7_partsAs_1 : decode cX7_partsAs 1 = .ok (.lookupswitch 119 #[(0, 27), (1, 78)], 27) := by decide +kernel
theorem dX7_partsAs_28 : decode cX7_partsAs 28 = .ok (.aload_n 0, 1) := by decide +kernel
theorem dX7_partsAs_29 : decode cX7_partsAs 29 = .ok (.bipush 13, 2) := by decide +kernel
theorem dX7_partsAs_31 : decode cX7_partsAs 31 = .ok (.invokevirtual 225, 3) := by decide +kernel
theorem dX7_partsAs_34 : decode cX7_partsAs 34 = .ok (.aload_n 0, 1) := by decide +kernel
theorem dX7_partsAs_35 : decode cX7_partsAs 35 = .ok (.invokevirtual 237, 3) := by decide +kernel
theorem dX7_partsAs_38 : decode cX7_partsAs 38 = .ok (.aload_n 0, 1) := by decide +kernel
theorem dX7_partsAs_39 : decode cX7_partsAs 39 = .ok (.getfield 222, 3) := by decide +kernel
theorem dX7_partsAs_42 : decode cX7_partsAs 42 = .ok (.isub, 1) := by decide +kernel
theorem dX7_partsAs_43 : decode cX7_partsAs 43 = .ok (.istore_n 3, 1) := by decide +kernel
theorem dX7_partsAs_44 : decode cX7_partsAs 44 = .ok (.aload_n 0, 1) := by decide +kernel
theorem dX7_partsAs_45 : decode cX7_partsAs 45 = .ok (.iload_n 3, 1) := by decide +kernel
theorem dX7_partsAs_46 : decode cX7_partsAs 46 = .ok (.ifCond .ne 7, 3) := by decide +kernel
theorem dX7_partsAs_49 : decode cX7_partsAs 49 = .ok (.iconst 1, 1) := by decide +kernel
theorem dX7_partsAs_50 : decode cX7_partsAs 50 = .ok (.goto 4, 3) := by decide +kernel
theorem dX7_partsAs_53 : decode cX7_partsAs 53 = .ok (.iconst 0, 1) := by decide +kernel
theorem dX7_partsAs_54 : decode cX7_partsAs 54 = .ok (.putfield 243, 3) := by decide +kernel
theorem dX7_partsAs_57 : decode cX7_partsAs 57 = .ok (.iload_n 3, 1) := by decide +kernel
theorem dX7_partsAs_58 : decode cX7_partsAs 58 = .ok (.ifCond .ne 7, 3) := by decide +kernel
theorem dX7_partsAs_61 : decode cX7_partsAs 61 = .ok (.iconst 0, 1) := by decide +kernel
theorem dX7_partsAs_62 : decode cX7_partsAs 62 = .ok (.goto 16, 3) := by decide +kernel
theorem dX7_partsAs_65 : decode cX7_partsAs 65 = .ok (.iload_n 3, 1) := by decide +kernel
theorem dX7_partsAs_66 : decode cX7_partsAs 66 = .ok (.iconst (-1), 1) := by decide +kernel
theorem dX7_partsAs_67 : decode cX7_partsAs 67 = .ok (.if_icmp .ne 8, 3) := by decide +kernel
theorem dX7_partsAs_70 : decode cX7_partsAs 70 = .ok (.iload_n 2, 1) := by decide +kernel
theorem dX7_partsAs_71 : decode cX7_partsAs 71 = .ok (.ineg, 1) := by decide +kernel
theorem dX7_partsAs_72 : decode cX7_partsAs 72 = .ok (.goto 6, 3) := by decide +kernel
theorem dX7_partsAs_75 : decode cX7_partsAs 75 = .ok (.iload_n 2, 1) := by decide +kernel
theorem dX7_partsAs_76 : decode cX7_partsAs 76 = .ok (.iload_n 3, 1) := by decide +kernel
theorem dX7_partsAs_77 : decode cX7_partsAs 77 = .ok (.idiv, 1) := by decide +kernel
theorem dX7_partsAs_78 : decode cX7_partsAs 78 = .ok (.ireturn, 1) := by decide +kernel
theorem dX7_partsAs_79 : decode cX7_partsAs 79 = .ok (.aload_n 0, 1) := by decide +kernel
theorem dX7_partsAs_80 : decode cX7_partsAs 80 = .ok (.bipush 21, 2) := by decide +kernel
theorem dX7_partsAs_82 : decode cX7_partsAs 82 = .ok (.invokevirtual 225, 3) := by decide +kernel
theorem dX7_partsAs_85 : decode cX7_partsAs 85 = .ok (.aload_n 0, 1) := by decide +kernel
theorem dX7_partsAs_86 : decode cX7_partsAs 86 = .ok (.iconst 1, 1) := by decide +kernel
theorem dX7_partsAs_87 : decode cX7_partsAs 87 = .ok (.invokestatic 165, 3) := by decide +kernel
theorem dX7_partsAs_90 : decode cX7_partsAs 90 = .ok (.iload_n 2, 1) := by decide +kernel
theorem dX7_partsAs_91 : decode cX7_partsAs 91 = .ok (.invokevirtual 247, 3) := by decide +kernel
theorem dX7_partsAs_94 : decode cX7_partsAs 94 = .ok (.istore 4, 2) := by decide +kernel
theorem dX7_partsAs_96 : decode cX7_partsAs 96 = .ok (.aload_n 0, 1) := by decide +kernel
theorem dX7_partsAs_97 : decode cX7_partsAs 97 = .ok (.getfield 243, 3) := by decide +kernel
theorem dX7_partsAs_100 : decode cX7_partsAs 100 = .ok (.ifCond .eq 7, 3) := by decide +kernel
theorem dX7_partsAs_103 : decode cX7_partsAs 103 = .ok (.iconst 0, 1) := by decide +kernel
theorem dX7_partsAs_104 : decode cX7_partsAs 104 = .ok (.goto 15, 3) := by decide +kernel
theorem dX7_partsAs_107 : decode cX7_partsAs 107 = .ok (.iload 4, 2) := by decide +kernel
theorem dX7_partsAs_109 : decode cX7_partsAs 109 = .ok (.aload_n 0, 1) := by decide +kernel
theorem dX7_partsAs_110 : decode cX7_partsAs 110 = .ok (.aload_n 0, 1) := by decide +kernel
theorem dX7_partsAs_111 : decode cX7_partsAs 111 = .ok (.invokevirtual 231, 3) := by decide +kernel
theorem dX7_partsAs_114 : decode cX7_partsAs 114 = .ok (.iconst 1, 1) := by decide +kernel
theorem dX7_partsAs_115 : decode cX7_partsAs 115 = .ok (.invokevirtual 234, 3) := by decide +kernel
theorem dX7_partsAs_118 : decode cX7_partsAs 118 = .ok (.iadd, 1) := by decide +kernel
theorem dX7_partsAs_119 : decode cX7_partsAs 119 = .ok (.ireturn, 1) := by decide +kernel
theorem dX7_partsAs_120 : decode cX7_partsAs 120 = .ok (.aload_n 0, 1) := by decide +kernel
theorem dX7_partsAs_121 : decode cX7_partsAs 121 = .ok (.iload_n 1, 1) := by decide +kernel
theorem dX7_partsAs_122 : decode cX7_partsAs 122 = .ok (.invokestatic 165, 3) := by decide +kernel
theorem dX7_partsAs_125 : decode cX7_partsAs 125 = .ok (.iload_n 2, 1) := by decide +kernel
theorem dX7_partsAs_126 : decode cX7_partsAs 126 = .ok (.invokevirtual 247, 3) := by decide +kernel
theorem dX7_partsAs_129 : decode cX7_partsAs 129 = .ok (.ireturn, 1) := by decide +kernel
theorem dX7_voice_0 : decode cX7_voice 0 = .ok (.aload_n 0, 1) := by decide +kernel
theorem dX7_voice_1 : decode cX7_voice 1 = .ok (.iload_n 1, 1) := by decide +kernel
theorem dX7_voice_2 : decode cX7_voice 2 = .ok (.invokevirtual 57, 3) := by decide +kernel
theorem dX7_voice_5 : decode cX7_voice 5 = .ok (.ifCond .eq 12, 3) := by decide +kernel
theorem dX7_voice_8 : decode cX7_voice 8 = .ok (.iload_n 2, 1) := by decide +kernel
theorem dX7_voice_9 : decode cX7_voice 9 = .ok (.iconst 0, 1) := by decide +kernel
theorem dX7_voice_10 : decode cX7_voice 10 = .ok (.iconst 3, 1) := by decide +kernel
theorem dX7_voice_11 : decode cX7_voice 11 = .ok (.invokestatic 53, 3) := by decide +kernel
theorem dX7_voice_14 : decode cX7_voice 14 = .ok (.ifCond .ne 9, 3) := by decide +kernel
theorem dX7_voice_17 : decode cX7_voice 17 = .ok (.aload_n 0, 1) := by decide +kernel
theorem dX7_voice_18 : decode cX7_voice 18 = .ok (.iconst 1, 1) := by decide +kernel
theorem dX7_voice_19 : decode cX7_voice 19 = .ok (.invokevirtual 61, 3) := by decide +kernel
theorem dX7_voice_22 : decode cX7_voice 22 = .ok (.ireturn, 1) := by decide +kernel
theorem dX7_voice_23 : decode cX7_voice 23 = .ok (.aload_n 0, 1) := by decide +kernel
theorem dX7_voice_24 : decode cX7_voice 24 = .ok (.iconst 0, 1) := by decide +kernel
theorem dX7_voice_25 : decode cX7_voice 25 = .ok (.putfield 219, 3) := by decide +kernel
theorem dX7_voice_28 : decode cX7_voice 28 = .ok (.aload_n 0, 1) := by decide +kernel
theorem dX7_voice_29 : decode cX7_voice 29 = .ok (.iload_n 1, 1) := by decide +kernel
theorem dX7_voice_30 : decode cX7_voice 30 = .ok (.putfield 222, 3) := by decide +kernel
theorem dX7_voice_33 : decode cX7_voice 33 = .ok (.aload_n 0, 1) := by decide +kernel
theorem dX7_voice_34 : decode cX7_voice 34 = .ok (.iconst 0, 1) := by decide +kernel
theorem dX7_voice_35 : decode cX7_voice 35 = .ok (.putfield 243, 3) := by decide +kernel
theorem dX7_voice_38 : decode cX7_voice 38 = .ok (.aload_n 0, 1) := by decide +kernel
theorem dX7_voice_39 : decode cX7_voice 39 = .ok (.invokevirtual 231, 3) := by decide +kernel
theorem dX7_voice_42 : decode cX7_voice 42 = .ok (.istore 4, 2) := by decide +kernel
theorem dX7_voice_44 : decode cX7_voice 44 = .ok (.iload_n 2, 1) := by decide +kernel
theorem dX7_voice_45 : decode cX7_voice 45 = .ok (.ifCond .ne 13, 3) := by decide +kernel
theorem dX7_voice_48 : decode cX7_voice 48 = .ok (.aload_n 0, 1) := by decide +kernel
theorem dX7_voice_49 : decode cX7_voice 49 = .ok (.iload 4, 2) := by decide +kernel
theorem dX7_voice_51 : decode cX7_voice 51 = .ok (.iload_n 3, 1) := by decide +kernel
theorem dX7_voice_52 : decode cX7_voice 52 = .ok (.invokevirtual 228, 3) := by decide +kernel
theorem dX7_voice_55 : decode cX7_voice 55 = .ok (.goto 40, 3) := by decide +kernel
theorem dX7_voice_58 : decode cX7_voice 58 = .ok (.iload_n 2, 1) := by decide +kernel
theorem dX7_voice_59 : decode cX7_voice 59 = .ok (.iconst 1, 1) := by decide +kernel
theorem dX7_voice_60 : decode cX7_voice 60 = .ok (.if_icmp .ne 13, 3) := by decide +kernel
theorem dX7_voice_63 : decode cX7_voice 63 = .ok (.aload_n 0, 1) := by decide +kernel
theorem dX7_voice_64 : decode cX7_voice 64 = .ok (.iload 4, 2) := by decide +kernel
theorem dX7_voice_66 : decode cX7_voice 66 = .ok (.iload_n 3, 1) := by decide +kernel
theorem dX7_voice_67 : decode cX7_voice 67 = .ok (.invokevirtual 234, 3) := by decide +kernel
theorem dX7_voice_70 : decode cX7_voice 70 = .ok (.goto 25, 3) := by decide +kernel
theorem dX7_voice_73 : decode cX7_voice 73 = .ok (.iload_n 2, 1) := by decide +kernel
theorem dX7_voice_74 : decode cX7_voice 74 = .ok (.iconst 2, 1) := by decide +kernel
theorem dX7_voice_75 : decode cX7_voice 75 = .ok (.if_icmp .ne 13, 3) := by decide +kernel
theorem dX7_voice_78 : decode cX7_voice 78 = .ok (.aload_n 0, 1) := by decide +kernel
theorem dX7_voice_79 : decode cX7_voice 79 = .ok (.iload 4, 2) := by decide +kernel
theorem dX7_voice_81 : decode cX7_voice 81 = .ok (.iload_n 3, 1) := by decide +kernel
theorem dX7_voice_82 : decode cX7_voice 82 = .ok (.invokevirtual 240, 3) := by decide +kernel
theorem dX7_voice_85 : decode cX7_voice 85 = .ok (.goto 10, 3) := by decide +kernel
theorem dX7_voice_88 : decode cX7_voice 88 = .ok (.aload_n 0, 1) := by decide +kernel
theorem dX7_voice_89 : decode cX7_voice 89 = .ok (.iload 4, 2) := by decide +kernel
theorem dX7_voice_91 : decode cX7_voice 91 = .ok (.iload_n 3, 1) := by decide +kernel
theorem dX7_voice_92 : decode cX7_voice 92 = .ok (.invokevirtual 247, 3) := by decide +kernel
theorem dX7_voice_95 : decode cX7_voice 95 = .ok (.istore 5, 2) := by decide +kernel
theorem dX7_voice_97 : decode cX7_voice 97 = .ok (.aload_n 0, 1) := by decide +kernel
theorem dX7_voice_98 : decode cX7_voice 98 = .ok (.getfield 243, 3) := by decide +kernel
theorem dX7_voice_101 : decode cX7_voice 101 = .ok (.ifCond .eq 12, 3) := by decide +kernel
theorem dX7_voice_104 : decode cX7_voice 104 = .ok (.aload_n 0, 1) := by decide +kernel
theorem dX7_voice_105 : decode cX7_voice 105 = .ok (.bipush 6, 2) := by decide +kernel
theorem dX7_voice_107 : decode cX7_voice 107 = .ok (.invokevirtual 61, 3) := by decide +kernel
theorem dX7_voice_110 : decode cX7_voice 110 = .ok (.goto 5, 3) := by decide +kernel
theorem dX7_voice_113 : decode cX7_voice 113 = .ok (.iload 5, 2) := by decide +kernel
theorem dX7_voice_115 : decode cX7_voice 115 = .ok (.ireturn, 1) := by decide +kernel
theorem dX7_body_0 : decode cX7_body 0 = .ok (.iload_n 1, 1) := by decide +kernel
theorem dX7_body_1 : decode cX7_body 1 = .ok (.iconst 0, 1) := by decide +kernel
theorem dX7_body_2 : decode cX7_body 2 = .ok (.aload_n 0, 1) := by decide +kernel
theorem dX7_body_3 : decode cX7_body 3 = .ok (.getfield 219, 3) := by decide +kernel
theorem dX7_body_6 : decode cX7_body 6 = .ok (.iconst 1, 1) := by decide +kernel
theorem dX7_body_7 : decode cX7_body 7 = .ok (.isub, 1) := by decide +kernel
theorem dX7_body_8 : decode cX7_body 8 = .ok (.invokestatic 53, 3) := by decide +kernel
theorem dX7_body_11 : decode cX7_body 11 = .ok (.ifCond .eq 12, 3) := by decide +kernel
theorem dX7_body_14 : decode cX7_body 14 = .ok (.aload_n 0, 1) := by decide +kernel
theorem dX7_body_15 : decode cX7_body 15 = .ok (.getfield 37, 3) := by decide +kernel
theorem dX7_body_18 : decode cX7_body 18 = .ok (.iload_n 1, 1) := by decide +kernel
theorem dX7_body_19 : decode cX7_body 19 = .ok (.iaload, 1) := by decide +kernel
theorem dX7_body_20 : decode cX7_body 20 = .ok (.goto 8, 3) := by decide +kernel
theorem dX7_body_23 : decode cX7_body 23 = .ok (.aload_n 0, 1) := by decide +kernel
theorem dX7_body_24 : decode cX7_body 24 = .ok (.iconst 2, 1) := by decide +kernel
theorem dX7_body_25 : decode cX7_body 25 = .ok (.invokevirtual 61, 3) := by decide +kernel
theorem dX7_body_28 : decode cX7_body 28 = .ok (.ireturn, 1) := by decide +kernel
theorem dX7_isSheet_0 : decode cX7_isSheet 0 = .ok (.iload_n 0, 1) := by decide +kernel
theorem dX7_isSheet_1 : decode cX7_isSheet 1 = .ok (.iconst 0, 1) := by decide +kernel
theorem dX7_isSheet_2 : decode cX7_isSheet 2 = .ok (.iconst 3, 1) := by decide +kernel
theorem dX7_isSheet_3 : decode cX7_isSheet 3 = .ok (.invokestatic 53, 3) := by decide +kernel
theorem dX7_isSheet_6 : decode cX7_isSheet 6 = .ok (.ireturn, 1) := by decide +kernel
theorem dX7_sheet_0 : decode cX7_sheet 0 = .ok (.iload_n 1, 1) := by decide +kernel
theorem dX7_sheet_1 : decode cX7_sheet 1 = .ok (.invokestatic 250, 3) := by decide +kernel
theorem dX7_sheet_4 : decode cX7_sheet 4 = .ok (.ifCond .eq 25, 3) := by decide +kernel
theorem dX7_sheet_7 : decode cX7_sheet 7 = .ok (.iload_n 2, 1) := by decide +kernel
theorem dX7_sheet_8 : decode cX7_sheet 8 = .ok (.ifCond .eq 27, 3) := by decide +kernel
theorem dX7_sheet_11 : decode cX7_sheet 11 = .ok (.iload_n 2, 1) := by decide +kernel
theorem dX7_sheet_12 : decode cX7_sheet 12 = .ok (.bipush 8, 2) := by decide +kernel
theorem dX7_sheet_14 : decode cX7_sheet 14 = .ok (.if_icmp .eq 21, 3) := by decide +kernel
theorem dX7_sheet_17 : decode cX7_sheet 17 = .ok (.iload_n 2, 1) := by decide +kernel
theorem dX7_sheet_18 : decode cX7_sheet 18 = .ok (.bipush 16, 2) := by decide +kernel
theorem dX7_sheet_20 : decode cX7_sheet 20 = .ok (.if_icmp .eq 15, 3) := by decide +kernel
theorem dX7_sheet_23 : decode cX7_sheet 23 = .ok (.iload_n 2, 1) := by decide +kernel
theorem dX7_sheet_24 : decode cX7_sheet 24 = .ok (.bipush 32, 2) := by decide +kernel
theorem dX7_sheet_26 : decode cX7_sheet 26 = .ok (.if_icmp .eq 9, 3) := by decide +kernel
theorem dX7_sheet_29 : decode cX7_sheet 29 = .ok (.aload_n 0, 1) := by decide +kernel
theorem dX7_sheet_30 : decode cX7_sheet 30 = .ok (.iconst 1, 1) := by decide +kernel
theorem dX7_sheet_31 : decode cX7_sheet 31 = .ok (.invokevirtual 61, 3) := by decide +kernel
theorem dX7_sheet_34 : decode cX7_sheet 34 = .ok (.ireturn, 1) := by decide +kernel
theorem dX7_sheet_35 : decode cX7_sheet 35 = .ok (.iload_n 2, 1) := by decide +kernel
theorem dX7_sheet_36 : decode cX7_sheet 36 = .ok (.ifCond .eq 13, 3) := by decide +kernel
theorem dX7_sheet_39 : decode cX7_sheet 39 = .ok (.iload_n 3, 1) := by decide +kernel
theorem dX7_sheet_40 : decode cX7_sheet 40 = .ok (.ifCond .ge 9, 3) := by decide +kernel
theorem dX7_sheet_43 : decode cX7_sheet 43 = .ok (.aload_n 0, 1) := by decide +kernel
theorem dX7_sheet_44 : decode cX7_sheet 44 = .ok (.iconst 3, 1) := by decide +kernel
theorem dX7_sheet_45 : decode cX7_sheet 45 = .ok (.invokevirtual 61, 3) := by decide +kernel
theorem dX7_sheet_48 : decode cX7_sheet 48 = .ok (.ireturn, 1) := by decide +kernel
theorem dX7_sheet_49 : decode cX7_sheet 49 = .ok (.iload_n 2, 1) := by decide +kernel
theorem dX7_sheet_50 : decode cX7_sheet 50 = .ok (.ifCond .eq 15, 3) := by decide +kernel
theorem dX7_sheet_53 : decode cX7_sheet 53 = .ok (.iload_n 3, 1) := by decide +kernel
theorem dX7_sheet_54 : decode cX7_sheet 54 = .ok (.bipush 24, 2) := by decide +kernel
theorem dX7_sheet_56 : decode cX7_sheet 56 = .ok (.if_icmp .le 9, 3) := by decide +kernel
theorem dX7_sheet_59 : decode cX7_sheet 59 = .ok (.aload_n 0, 1) := by decide +kernel
theorem dX7_sheet_60 : decode cX7_sheet 60 = .ok (.iconst 1, 1) := by decide +kernel
theorem dX7_sheet_61 : decode cX7_sheet 61 = .ok (.invokevirtual 61, 3) := by decide +kernel
theorem dX7_sheet_64 : decode cX7_sheet 64 = .ok (.ireturn, 1) := by decide +kernel
theorem dX7_sheet_65 : decode cX7_sheet 65 = .ok (.aload_n 0, 1) := by decide +kernel
theorem dX7_sheet_66 : decode cX7_sheet 66 = .ok (.getfield 40, 3) := by decide +kernel
theorem dX7_sheet_69 : decode cX7_sheet 69 = .ok (.iload_n 1, 1) := by decide +kernel
theorem dX7_sheet_70 : decode cX7_sheet 70 = .ok (.iload_n 2, 1) := by decide +kernel
theorem dX7_sheet_71 : decode cX7_sheet 71 = .ok (.iastore, 1) := by decide +kernel
theorem dX7_sheet_72 : decode cX7_sheet 72 = .ok (.aload_n 0, 1) := by decide +kernel
theorem dX7_sheet_73 : decode cX7_sheet 73 = .ok (.getfield 43, 3) := by decide +kernel
theorem dX7_sheet_76 : decode cX7_sheet 76 = .ok (.iload_n 1, 1) := by decide +kernel
theorem dX7_sheet_77 : decode cX7_sheet 77 = .ok (.iload_n 2, 1) := by decide +kernel
theorem dX7_sheet_78 : decode cX7_sheet 78 = .ok (.ifCond .ne 7, 3) := by decide +kernel
theorem dX7_sheet_81 : decode cX7_sheet 81 = .ok (.iconst 0, 1) := by decide +kernel
theorem dX7_sheet_82 : decode cX7_sheet 82 = .ok (.goto 4, 3) := by decide +kernel
theorem dX7_sheet_85 : decode cX7_sheet 85 = .ok (.iload_n 3, 1) := by decide +kernel
theorem dX7_sheet_86 : decode cX7_sheet 86 = .ok (.iastore, 1) := by decide +kernel
theorem dX7_sheet_87 : decode cX7_sheet 87 = .ok (.iconst 0, 1) := by decide +kernel
theorem dX7_sheet_88 : decode cX7_sheet 88 = .ok (.istore 4, 2) := by decide +kernel
theorem dX7_sheet_90 : decode cX7_sheet 90 = .ok (.iload 4, 2) := by decide +kernel
theorem dX7_sheet_92 : decode cX7_sheet 92 = .ok (.bipush 24, 2) := by decide +kernel
theorem dX7_sheet_94 : decode cX7_sheet 94 = .ok (.if_icmp .ge 22, 3) := by decide +kernel
theorem dX7_sheet_97 : decode cX7_sheet 97 = .ok (.aload_n 0, 1) := by decide +kernel
theorem dX7_sheet_98 : decode cX7_sheet 98 = .ok (.getfield 46, 3) := by decide +kernel
theorem dX7_sheet_101 : decode cX7_sheet 101 = .ok (.bipush 24, 2) := by decide +kernel
theorem dX7_sheet_103 : decode cX7_sheet 103 = .ok (.iload_n 1, 1) := by decide +kernel
theorem dX7_sheet_104 : decode cX7_sheet 104 = .ok (.imul, 1) := by decide +kernel
theorem dX7_sheet_105 : decode cX7_sheet 105 = .ok (.iload 4, 2) := by decide +kernel
theorem dX7_sheet_107 : decode cX7_sheet 107 = .ok (.iadd, 1) := by decide +kernel
theorem dX7_sheet_108 : decode cX7_sheet 108 = .ok (.iconst 0, 1) := by decide +kernel
theorem dX7_sheet_109 : decode cX7_sheet 109 = .ok (.iastore, 1) := by decide +kernel
theorem dX7_sheet_110 : decode cX7_sheet 110 = .ok (.iinc 4 1, 3) := by decide +kernel
theorem dX7_sheet_113 : decode cX7_sheet 113 = .ok (.goto (-23), 3) := by decide +kernel
theorem dX7_sheet_116 : decode cX7_sheet 116 = .ok (.iconst 1, 1) := by decide +kernel
theorem dX7_sheet_117 : decode cX7_sheet 117 = .ok (.ireturn, 1) := by decide +kernel
theorem dX7_put_0 : decode cX7_put 0 = .ok (.iload_n 1, 1) := by decide +kernel
theorem dX7_put_1 : decode cX7_put 1 = .ok (.invokestatic 250, 3) := by decide +kernel
theorem dX7_put_4 : decode cX7_put 4 = .ok (.ifCond .ne 9, 3) := by decide +kernel
theorem dX7_put_7 : decode cX7_put 7 = .ok (.aload_n 0, 1) := by decide +kernel
theorem dX7_put_8 : decode cX7_put 8 = .ok (.iconst 1, 1) := by decide +kernel
theorem dX7_put_9 : decode cX7_put 9 = .ok (.invokevirtual 61, 3) := by decide +kernel
theorem dX7_put_12 : decode cX7_put 12 = .ok (.ireturn, 1) := by decide +kernel
theorem dX7_put_13 : decode cX7_put 13 = .ok (.aload_n 0, 1) := by decide +kernel
theorem dX7_put_14 : decode cX7_put 14 = .ok (.getfield 40, 3) := by decide +kernel
theorem dX7_put_17 : decode cX7_put 17 = .ok (.iload_n 1, 1) := by decide +kernel
theorem dX7_put_18 : decode cX7_put 18 = .ok (.iaload, 1) := by decide +kernel
theorem dX7_put_19 : decode cX7_put 19 = .ok (.ifCond .ne 9, 3) := by decide +kernel
theorem dX7_put_22 : decode cX7_put 22 = .ok (.aload_n 0, 1) := by decide +kernel
theorem dX7_put_23 : decode cX7_put 23 = .ok (.iconst 2, 1) := by decide +kernel
theorem dX7_put_24 : decode cX7_put 24 = .ok (.invokevirtual 61, 3) := by decide +kernel
theorem dX7_put_27 : decode cX7_put 27 = .ok (.ireturn, 1) := by decide +kernel
theorem dX7_put_28 : decode cX7_put 28 = .ok (.iload_n 2, 1) := by decide +kernel
theorem dX7_put_29 : decode cX7_put 29 = .ok (.iconst 0, 1) := by decide +kernel
theorem dX7_put_30 : decode cX7_put 30 = .ok (.aload_n 0, 1) := by decide +kernel
theorem dX7_put_31 : decode cX7_put 31 = .ok (.getfield 43, 3) := by decide +kernel
theorem dX7_put_34 : decode cX7_put 34 = .ok (.iload_n 1, 1) := by decide +kernel
theorem dX7_put_35 : decode cX7_put 35 = .ok (.iaload, 1) := by decide +kernel
theorem dX7_put_36 : decode cX7_put 36 = .ok (.iconst 1, 1) := by decide +kernel
theorem dX7_put_37 : decode cX7_put 37 = .ok (.isub, 1) := by decide +kernel
theorem dX7_put_38 : decode cX7_put 38 = .ok (.invokestatic 53, 3) := by decide +kernel
theorem dX7_put_41 : decode cX7_put 41 = .ok (.ifCond .ne 9, 3) := by decide +kernel
theorem dX7_put_44 : decode cX7_put 44 = .ok (.aload_n 0, 1) := by decide +kernel
theorem dX7_put_45 : decode cX7_put 45 = .ok (.iconst 1, 1) := by decide +kernel
theorem dX7_put_46 : decode cX7_put 46 = .ok (.invokevirtual 61, 3) := by decide +kernel
theorem dX7_put_49 : decode cX7_put 49 = .ok (.ireturn, 1) := by decide +kernel
theorem dX7_put_50 : decode cX7_put 50 = .ok (.bipush 32, 2) := by decide +kernel
theorem dX7_put_52 : decode cX7_put 52 = .ok (.aload_n 0, 1) := by decide +kernel
theorem dX7_put_53 : decode cX7_put 53 = .ok (.getfield 40, 3) := by decide +kernel
theorem dX7_put_56 : decode cX7_put 56 = .ok (.iload_n 1, 1) := by decide +kernel
theorem dX7_put_57 : decode cX7_put 57 = .ok (.iaload, 1) := by decide +kernel
theorem dX7_put_58 : decode cX7_put 58 = .ok (.isub, 1) := by decide +kernel
theorem dX7_put_59 : decode cX7_put 59 = .ok (.istore 4, 2) := by decide +kernel
theorem dX7_put_61 : decode cX7_put 61 = .ok (.aload_n 0, 1) := by decide +kernel
theorem dX7_put_62 : decode cX7_put 62 = .ok (.getfield 46, 3) := by decide +kernel
theorem dX7_put_65 : decode cX7_put 65 = .ok (.bipush 24, 2) := by decide +kernel
theorem dX7_put_67 : decode cX7_put 67 = .ok (.iload_n 1, 1) := by decide +kernel
theorem dX7_put_68 : decode cX7_put 68 = .ok (.imul, 1) := by decide +kernel
theorem dX7_put_69 : decode cX7_put 69 = .ok (.iload_n 2, 1) := by decide +kernel
theorem dX7_put_70 : decode cX7_put 70 = .ok (.iadd, 1) := by decide +kernel
theorem dX7_put_71 : decode cX7_put 71 = .ok (.iload_n 3, 1) := by decide +kernel
theorem dX7_put_72 : decode cX7_put 72 = .ok (.iload 4, 2) := by decide +kernel
theorem dX7_put_74 : decode cX7_put 74 = .ok (.ishl, 1) := by decide +kernel
theorem dX7_put_75 : decode cX7_put 75 = .ok (.iload 4, 2) := by decide +kernel
theorem dX7_put_77 : decode cX7_put 77 = .ok (.ishr, 1) := by decide +kernel
theorem dX7_put_78 : decode cX7_put 78 = .ok (.iastore, 1) := by decide +kernel
theorem dX7_put_79 : decode cX7_put 79 = .ok (.iconst 1, 1) := by decide +kernel
theorem dX7_put_80 : decode cX7_put 80 = .ok (.ireturn, 1) := by decide +kernel
theorem dX7_move_0 : decode cX7_move 0 = .ok (.iload_n 1, 1) := by decide +kernel
theorem dX7_move_1 : decode cX7_move 1 = .ok (.invokestatic 250, 3) := by decide +kernel
theorem dX7_move_4 : decode cX7_move 4 = .ok (.ifCond .eq 10, 3) := by decide +kernel
theorem dX7_move_7 : decode cX7_move 7 = .ok (.iload_n 3, 1) := by decide +kernel
theorem dX7_move_8 : decode cX7_move 8 = .ok (.invokestatic 250, 3) := by decide +kernel
theorem dX7_move_11 : decode cX7_move 11 = .ok (.ifCond .ne 9, 3) := by decide +kernel
theorem dX7_move_14 : decode cX7_move 14 = .ok (.aload_n 0, 1) := by decide +kernel
theorem dX7_move_15 : decode cX7_move 15 = .ok (.iconst 1, 1) := by decide +kernel
theorem dX7_move_16 : decode cX7_move 16 = .ok (.invokevirtual 61, 3) := by decide +kernel
theorem dX7_move_19 : decode cX7_move 19 = .ok (.ireturn, 1) := by decide +kernel
theorem dX7_move_20 : decode cX7_move 20 = .ok (.aload_n 0, 1) := by decide +kernel
theorem dX7_move_21 : decode cX7_move 21 = .ok (.getfield 40, 3) := by decide +kernel
theorem dX7_move_24 : decode cX7_move 24 = .ok (.iload_n 1, 1) := by decide +kernel
theorem dX7_move_25 : decode cX7_move 25 = .ok (.iaload, 1) := by decide +kernel
theorem dX7_move_26 : decode cX7_move 26 = .ok (.ifCond .eq 12, 3) := by decide +kernel
theorem dX7_move_29 : decode cX7_move 29 = .ok (.aload_n 0, 1) := by decide +kernel
theorem dX7_move_30 : decode cX7_move 30 = .ok (.getfield 40, 3) := by decide +kernel
theorem dX7_move_33 : decode cX7_move 33 = .ok (.iload_n 3, 1) := by decide +kernel
theorem dX7_move_34 : decode cX7_move 34 = .ok (.iaload, 1) := by decide +kernel
theorem dX7_move_35 : decode cX7_move 35 = .ok (.ifCond .ne 9, 3) := by decide +kernel
theorem dX7_move_38 : decode cX7_move 38 = .ok (.aload_n 0, 1) := by decide +kernel
theorem dX7_move_39 : decode cX7_move 39 = .ok (.iconst 2, 1) := by decide +kernel
theorem dX7_move_40 : decode cX7_move 40 = .ok (.invokevirtual 61, 3) := by decide +kernel
theorem dX7_move_43 : decode cX7_move 43 = .ok (.ireturn, 1) := by decide +kernel
theorem dX7_move_44 : decode cX7_move 44 = .ok (.aload_n 0, 1) := by decide +kernel
theorem dX7_move_45 : decode cX7_move 45 = .ok (.getfield 40, 3) := by decide +kernel
theorem dX7_move_48 : decode cX7_move 48 = .ok (.iload_n 1, 1) := by decide +kernel
theorem dX7_move_49 : decode cX7_move 49 = .ok (.iaload, 1) := by decide +kernel
theorem dX7_move_50 : decode cX7_move 50 = .ok (.aload_n 0, 1) := by decide +kernel
theorem dX7_move_51 : decode cX7_move 51 = .ok (.getfield 40, 3) := by decide +kernel
theorem dX7_move_54 : decode cX7_move 54 = .ok (.iload_n 3, 1) := by decide +kernel
theorem dX7_move_55 : decode cX7_move 55 = .ok (.iaload, 1) := by decide +kernel
theorem dX7_move_56 : decode cX7_move 56 = .ok (.if_icmp .eq 9, 3) := by decide +kernel
theorem dX7_move_59 : decode cX7_move 59 = .ok (.aload_n 0, 1) := by decide +kernel
theorem dX7_move_60 : decode cX7_move 60 = .ok (.iconst 5, 1) := by decide +kernel
theorem dX7_move_61 : decode cX7_move 61 = .ok (.invokevirtual 61, 3) := by decide +kernel
theorem dX7_move_64 : decode cX7_move 64 = .ok (.ireturn, 1) := by decide +kernel
theorem dX7_move_65 : decode cX7_move 65 = .ok (.iload 5, 2) := by decide +kernel
theorem dX7_move_67 : decode cX7_move 67 = .ok (.ifCond .lt 39, 3) := by decide +kernel
theorem dX7_move_70 : decode cX7_move 70 = .ok (.iload_n 2, 1) := by decide +kernel
theorem dX7_move_71 : decode cX7_move 71 = .ok (.ifCond .lt 35, 3) := by decide +kernel
theorem dX7_move_74 : decode cX7_move 74 = .ok (.iload 4, 2) := by decide +kernel
theorem dX7_move_76 : decode cX7_move 76 = .ok (.ifCond .lt 30, 3) := by decide +kernel
theorem dX7_move_79 : decode cX7_move 79 = .ok (.iload_n 2, 1) := by decide +kernel
theorem dX7_move_80 : decode cX7_move 80 = .ok (.aload_n 0, 1) := by decide +kernel
theorem dX7_move_81 : decode cX7_move 81 = .ok (.getfield 43, 3) := by decide +kernel
theorem dX7_move_84 : decode cX7_move 84 = .ok (.iload_n 1, 1) := by decide +kernel
theorem dX7_move_85 : decode cX7_move 85 = .ok (.iaload, 1) := by decide +kernel
theorem dX7_move_86 : decode cX7_move 86 = .ok (.iload 5, 2) := by decide +kernel
theorem dX7_move_88 : decode cX7_move 88 = .ok (.isub, 1) := by decide +kernel
theorem dX7_move_89 : decode cX7_move 89 = .ok (.if_icmp .gt 17, 3) := by decide +kernel
theorem dX7_move_92 : decode cX7_move 92 = .ok (.iload 4, 2) := by decide +kernel
theorem dX7_move_94 : decode cX7_move 94 = .ok (.aload_n 0, 1) := by decide +kernel
theorem dX7_move_95 : decode cX7_move 95 = .ok (.getfield 43, 3) := by decide +kernel
theorem dX7_move_98 : decode cX7_move 98 = .ok (.iload_n 3, 1) := by decide +kernel
theorem dX7_move_99 : decode cX7_move 99 = .ok (.iaload, 1) := by decide +kernel
theorem dX7_move_100 : decode cX7_move 100 = .ok (.iload 5, 2) := by decide +kernel
theorem dX7_move_102 : decode cX7_move 102 = .ok (.isub, 1) := by decide +kernel
theorem dX7_move_103 : decode cX7_move 103 = .ok (.if_icmp .le 9, 3) := by decide +kernel
theorem dX7_move_106 : decode cX7_move 106 = .ok (.aload_n 0, 1) := by decide +kernel
theorem dX7_move_107 : decode cX7_move 107 = .ok (.iconst 1, 1) := by decide +kernel
theorem dX7_move_108 : decode cX7_move 108 = .ok (.invokevirtual 61, 3) := by decide +kernel
theorem dX7_move_111 : decode cX7_move 111 = .ok (.ireturn, 1) := by decide +kernel
theorem dX7_move_112 : decode cX7_move 112 = .ok (.iconst 0, 1) := by decide +kernel
theorem dX7_move_113 : decode cX7_move 113 = .ok (.istore 6, 2) := by decide +kernel
theorem dX7_move_115 : decode cX7_move 115 = .ok (.iload 6, 2) := by decide +kernel
theorem dX7_move_117 : decode cX7_move 117 = .ok (.iload 5, 2) := by decide +kernel
theorem dX7_move_119 : decode cX7_move 119 = .ok (.if_icmp .ge 30, 3) := by decide +kernel
theorem dX7_move_122 : decode cX7_move 122 = .ok (.aload_n 0, 1) := by decide +kernel
theorem dX7_move_123 : decode cX7_move 123 = .ok (.getfield 49, 3) := by decide +kernel
theorem dX7_move_126 : decode cX7_move 126 = .ok (.iload 6, 2) := by decide +kernel
theorem dX7_move_128 : decode cX7_move 128 = .ok (.aload_n 0, 1) := by decide +kernel
theorem dX7_move_129 : decode cX7_move 129 = .ok (.getfield 46, 3) := by decide +kernel
theorem dX7_move_132 : decode cX7_move 132 = .ok (.bipush 24, 2) := by decide +kernel
theorem dX7_move_134 : decode cX7_move 134 = .ok (.iload_n 1, 1) := by decide +kernel
theorem dX7_move_135 : decode cX7_move 135 = .ok (.imul, 1) := by decide +kernel
theorem dX7_move_136 : decode cX7_move 136 = .ok (.iload_n 2, 1) := by decide +kernel
theorem dX7_move_137 : decode cX7_move 137 = .ok (.iadd, 1) := by decide +kernel
theorem dX7_move_138 : decode cX7_move 138 = .ok (.iload 6, 2) := by decide +kernel
theorem dX7_move_140 : decode cX7_move 140 = .ok (.iadd, 1) := by decide +kernel
theorem dX7_move_141 : decode cX7_move 141 = .ok (.iaload, 1) := by decide +kernel
theorem dX7_move_142 : decode cX7_move 142 = .ok (.iastore, 1) := by decide +kernel
theorem dX7_move_143 : decode cX7_move 143 = .ok (.iinc 6 1, 3) := by decide +kernel
theorem dX7_move_146 : decode cX7_move 146 = .ok (.goto (-31), 3) := by decide +kernel
theorem dX7_move_149 : decode cX7_move 149 = .ok (.iconst 0, 1) := by decide +kernel
theorem dX7_move_150 : decode cX7_move 150 = .ok (.istore 6, 2) := by decide +kernel
theorem dX7_move_152 : decode cX7_move 152 = .ok (.iload 6, 2) := by decide +kernel
theorem dX7_move_154 : decode cX7_move 154 = .ok (.iload 5, 2) := by decide +kernel
theorem dX7_move_156 : decode cX7_move 156 = .ok (.if_icmp .ge 31, 3) := by decide +kernel
theorem dX7_move_159 : decode cX7_move 159 = .ok (.aload_n 0, 1) := by decide +kernel
theorem dX7_move_160 : decode cX7_move 160 = .ok (.getfield 46, 3) := by decide +kernel
theorem dX7_move_163 : decode cX7_move 163 = .ok (.bipush 24, 2) := by decide +kernel
theorem dX7_move_165 : decode cX7_move 165 = .ok (.iload_n 3, 1) := by decide +kernel
theorem dX7_move_166 : decode cX7_move 166 = .ok (.imul, 1) := by decide +kernel
theorem dX7_move_167 : decode cX7_move 167 = .ok (.iload 4, 2) := by decide +kernel
theorem dX7_move_169 : decode cX7_move 169 = .ok (.iadd, 1) := by decide +kernel
theorem dX7_move_170 : decode cX7_move 170 = .ok (.iload 6, 2) := by decide +kernel
theorem dX7_move_172 : decode cX7_move 172 = .ok (.iadd, 1) := by decide +kernel
theorem dX7_move_173 : decode cX7_move 173 = .ok (.aload_n 0, 1) := by decide +kernel
theorem dX7_move_174 : decode cX7_move 174 = .ok (.getfield 49, 3) := by decide +kernel
theorem dX7_move_177 : decode cX7_move 177 = .ok (.iload 6, 2) := by decide +kernel
theorem dX7_move_179 : decode cX7_move 179 = .ok (.iaload, 1) := by decide +kernel
theorem dX7_move_180 : decode cX7_move 180 = .ok (.iastore, 1) := by decide +kernel
theorem dX7_move_181 : decode cX7_move 181 = .ok (.iinc 6 1, 3) := by decide +kernel
theorem dX7_move_184 : decode cX7_move 184 = .ok (.goto (-32), 3) := by decide +kernel
theorem dX7_move_187 : decode cX7_move 187 = .ok (.iload 5, 2) := by decide +kernel
theorem dX7_move_189 : decode cX7_move 189 = .ok (.ireturn, 1) := by decide +kernel
theorem dX7_lacks_0 : decode cX7_lacks 0 = .ok (.iload_n 1, 1) := by decide +kernel
theorem dX7_lacks_1 : decode cX7_lacks 1 = .ok (.invokestatic 250, 3) := by decide +kernel
theorem dX7_lacks_4 : decode cX7_lacks 4 = .ok (.ifCond .ne 7, 3) := by decide +kernel
theorem dX7_lacks_7 : decode cX7_lacks 7 = .ok (.iconst 1, 1) := by decide +kernel
theorem dX7_lacks_8 : decode cX7_lacks 8 = .ok (.goto 17, 3) := by decide +kernel
theorem dX7_lacks_11 : decode cX7_lacks 11 = .ok (.aload_n 0, 1) := by decide +kernel
theorem dX7_lacks_12 : decode cX7_lacks 12 = .ok (.getfield 40, 3) := by decide +kernel
theorem dX7_lacks_15 : decode cX7_lacks 15 = .ok (.iload_n 1, 1) := by decide +kernel
theorem dX7_lacks_16 : decode cX7_lacks 16 = .ok (.iaload, 1) := by decide +kernel
theorem dX7_lacks_17 : decode cX7_lacks 17 = .ok (.ifCond .ne 7, 3) := by decide +kernel
theorem dX7_lacks_20 : decode cX7_lacks 20 = .ok (.iconst 2, 1) := by decide +kernel
theorem dX7_lacks_21 : decode cX7_lacks 21 = .ok (.goto 4, 3) := by decide +kernel
theorem dX7_lacks_24 : decode cX7_lacks 24 = .ok (.iconst 0, 1) := by decide +kernel
theorem dX7_lacks_25 : decode cX7_lacks 25 = .ok (.ireturn, 1) := by decide +kernel
theorem dX7_nears_0 : decode cX7_nears 0 = .ok (.aload_n 0, 1) := by decide +kernel
theorem dX7_nears_1 : decode cX7_nears 1 = .ok (.iload_n 1, 1) := by decide +kernel
theorem dX7_nears_2 : decode cX7_nears 2 = .ok (.invokevirtual 213, 3) := by decide +kernel
theorem dX7_nears_5 : decode cX7_nears 5 = .ok (.istore_n 2, 1) := by decide +kernel
theorem dX7_nears_6 : decode cX7_nears 6 = .ok (.iload_n 2, 1) := by decide +kernel
theorem dX7_nears_7 : decode cX7_nears 7 = .ok (.ifCond .eq 9, 3) := by decide +kernel
theorem dX7_nears_10 : decode cX7_nears 10 = .ok (.aload_n 0, 1) := by decide +kernel
theorem dX7_nears_11 : decode cX7_nears 11 = .ok (.iload_n 2, 1) := by decide +kernel
theorem dX7_nears_12 : decode cX7_nears 12 = .ok (.invokevirtual 61, 3) := by decide +kernel
theorem dX7_nears_15 : decode cX7_nears 15 = .ok (.ireturn, 1) := by decide +kernel
theorem dX7_nears_16 : decode cX7_nears 16 = .ok (.iconst 0, 1) := by decide +kernel
theorem dX7_nears_17 : decode cX7_nears 17 = .ok (.istore_n 3, 1) := by decide +kernel
theorem dX7_nears_18 : decode cX7_nears 18 = .ok (.iload_n 3, 1) := by decide +kernel
theorem dX7_nears_19 : decode cX7_nears 19 = .ok (.aload_n 0, 1) := by decide +kernel
theorem dX7_nears_20 : decode cX7_nears 20 = .ok (.getfield 43, 3) := by decide +kernel
theorem dX7_nears_23 : decode cX7_nears 23 = .ok (.iload_n 1, 1) := by decide +kernel
theorem dX7_nears_24 : decode cX7_nears 24 = .ok (.iaload, 1) := by decide +kernel
theorem dX7_nears_25 : decode cX7_nears 25 = .ok (.if_icmp .ge 54, 3) := by decide +kernel
theorem dX7_nears_28 : decode cX7_nears 28 = .ok (.aload_n 0, 1) := by decide +kernel
theorem dX7_nears_29 : decode cX7_nears 29 = .ok (.iload_n 3, 1) := by decide +kernel
theorem dX7_nears_30 : decode cX7_nears 30 = .ok (.invokevirtual 57, 3) := by decide +kernel
theorem dX7_nears_33 : decode cX7_nears 33 = .ok (.ifCond .eq 46, 3) := by decide +kernel
theorem dX7_nears_36 : decode cX7_nears 36 = .ok (.aload_n 0, 1) := by decide +kernel
theorem dX7_nears_37 : decode cX7_nears 37 = .ok (.getfield 46, 3) := by decide +kernel
theorem dX7_nears_40 : decode cX7_nears 40 = .ok (.bipush 24, 2) := by decide +kernel
theorem dX7_nears_42 : decode cX7_nears 42 = .ok (.iload_n 1, 1) := by decide +kernel
theorem dX7_nears_43 : decode cX7_nears 43 = .ok (.imul, 1) := by decide +kernel
theorem dX7_nears_44 : decode cX7_nears 44 = .ok (.iload_n 3, 1) := by decide +kernel
theorem dX7_nears_45 : decode cX7_nears 45 = .ok (.iadd, 1) := by decide +kernel
theorem dX7_nears_46 : decode cX7_nears 46 = .ok (.iaload, 1) := by decide +kernel
theorem dX7_nears_47 : decode cX7_nears 47 = .ok (.iconst 0, 1) := by decide +kernel
theorem dX7_nears_48 : decode cX7_nears 48 = .ok (.bipush 99, 2) := by decide +kernel
theorem dX7_nears_50 : decode cX7_nears 50 = .ok (.invokestatic 53, 3) := by decide +kernel
theorem dX7_nears_53 : decode cX7_nears 53 = .ok (.ifCond .eq 26, 3) := by decide +kernel
theorem dX7_nears_56 : decode cX7_nears 56 = .ok (.aload_n 0, 1) := by decide +kernel
theorem dX7_nears_57 : decode cX7_nears 57 = .ok (.iload_n 3, 1) := by decide +kernel
theorem dX7_nears_58 : decode cX7_nears 58 = .ok (.iconst 2, 1) := by decide +kernel
theorem dX7_nears_59 : decode cX7_nears 59 = .ok (.aload_n 0, 1) := by decide +kernel
theorem dX7_nears_60 : decode cX7_nears 60 = .ok (.getfield 46, 3) := by decide +kernel
theorem dX7_nears_63 : decode cX7_nears 63 = .ok (.bipush 24, 2) := by decide +kernel
theorem dX7_nears_65 : decode cX7_nears 65 = .ok (.iload_n 1, 1) := by decide +kernel
theorem dX7_nears_66 : decode cX7_nears 66 = .ok (.imul, 1) := by decide +kernel
theorem dX7_nears_67 : decode cX7_nears 67 = .ok (.iload_n 3, 1) := by decide +kernel
theorem dX7_nears_68 : decode cX7_nears 68 = .ok (.iadd, 1) := by decide +kernel
theorem dX7_nears_69 : decode cX7_nears 69 = .ok (.iaload, 1) := by decide +kernel
theorem dX7_nears_70 : decode cX7_nears 70 = .ok (.invokevirtual 151, 3) := by decide +kernel
theorem dX7_nears_73 : decode cX7_nears 73 = .ok (.iinc 3 1, 3) := by decide +kernel
theorem dX7_nears_76 : decode cX7_nears 76 = .ok (.goto (-58), 3) := by decide +kernel
theorem dX7_nears_79 : decode cX7_nears 79 = .ok (.iload_n 3, 1) := by decide +kernel
theorem dX7_nears_80 : decode cX7_nears 80 = .ok (.ireturn, 1) := by decide +kernel
theorem dX7_judge_0 : decode cX7_judge 0 = .ok (.aload_n 0, 1) := by decide +kernel
theorem dX7_judge_1 : decode cX7_judge 1 = .ok (.iload_n 1, 1) := by decide +kernel
theorem dX7_judge_2 : decode cX7_judge 2 = .ok (.invokevirtual 213, 3) := by decide +kernel
theorem dX7_judge_5 : decode cX7_judge 5 = .ok (.istore_n 2, 1) := by decide +kernel
theorem dX7_judge_6 : decode cX7_judge 6 = .ok (.iload_n 2, 1) := by decide +kernel
theorem dX7_judge_7 : decode cX7_judge 7 = .ok (.ifCond .eq 9, 3) := by decide +kernel
theorem dX7_judge_10 : decode cX7_judge 10 = .ok (.aload_n 0, 1) := by decide +kernel
theorem dX7_judge_11 : decode cX7_judge 11 = .ok (.iload_n 2, 1) := by decide +kernel
theorem dX7_judge_12 : decode cX7_judge 12 = .ok (.invokevirtual 61, 3) := by decide +kernel
theorem dX7_judge_15 : decode cX7_judge 15 = .ok (.ireturn, 1) := by decide +kernel
theorem dX7_judge_16 : decode cX7_judge 16 = .ok (.iconst 0, 1) := by decide +kernel
theorem dX7_judge_17 : decode cX7_judge 17 = .ok (.istore_n 3, 1) := by decide +kernel
theorem dX7_judge_18 : decode cX7_judge 18 = .ok (.iload_n 3, 1) := by decide +kernel
theorem dX7_judge_19 : decode cX7_judge 19 = .ok (.aload_n 0, 1) := by decide +kernel
theorem dX7_judge_20 : decode cX7_judge 20 = .ok (.getfield 43, 3) := by decide +kernel
theorem dX7_judge_23 : decode cX7_judge 23 = .ok (.iload_n 1, 1) := by decide +kernel
theorem dX7_judge_24 : decode cX7_judge 24 = .ok (.iaload, 1) := by decide +kernel
theorem dX7_judge_25 : decode cX7_judge 25 = .ok (.if_icmp .ge 36, 3) := by decide +kernel
theorem dX7_judge_28 : decode cX7_judge 28 = .ok (.aload_n 0, 1) := by decide +kernel
theorem dX7_judge_29 : decode cX7_judge 29 = .ok (.iload_n 3, 1) := by decide +kernel
theorem dX7_judge_30 : decode cX7_judge 30 = .ok (.invokevirtual 57, 3) := by decide +kernel
theorem dX7_judge_33 : decode cX7_judge 33 = .ok (.ifCond .eq 28, 3) := by decide +kernel
theorem dX7_judge_36 : decode cX7_judge 36 = .ok (.aload_n 0, 1) := by decide +kernel
theorem dX7_judge_37 : decode cX7_judge 37 = .ok (.iload_n 3, 1) := by decide +kernel
theorem dX7_judge_38 : decode cX7_judge 38 = .ok (.invokevirtual 145, 3) := by decide +kernel
theorem dX7_judge_41 : decode cX7_judge 41 = .ok (.aload_n 0, 1) := by decide +kernel
theorem dX7_judge_42 : decode cX7_judge 42 = .ok (.getfield 46, 3) := by decide +kernel
theorem dX7_judge_45 : decode cX7_judge 45 = .ok (.bipush 24, 2) := by decide +kernel
theorem dX7_judge_47 : decode cX7_judge 47 = .ok (.iload_n 1, 1) := by decide +kernel
theorem dX7_judge_48 : decode cX7_judge 48 = .ok (.imul, 1) := by decide +kernel
theorem dX7_judge_49 : decode cX7_judge 49 = .ok (.iload_n 3, 1) := by decide +kernel
theorem dX7_judge_50 : decode cX7_judge 50 = .ok (.iadd, 1) := by decide +kernel
theorem dX7_judge_51 : decode cX7_judge 51 = .ok (.iaload, 1) := by decide +kernel
theorem dX7_judge_52 : decode cX7_judge 52 = .ok (.if_icmp .ne 9, 3) := by decide +kernel
theorem dX7_judge_55 : decode cX7_judge 55 = .ok (.iinc 3 1, 3) := by decide +kernel
theorem dX7_judge_58 : decode cX7_judge 58 = .ok (.goto (-40), 3) := by decide +kernel
theorem dX7_judge_61 : decode cX7_judge 61 = .ok (.iload_n 3, 1) := by decide +kernel
theorem dX7_judge_62 : decode cX7_judge 62 = .ok (.ireturn, 1) := by decide +kernel
theorem dX7_image_0 : decode cX7_image 0 = .ok (.aload_n 0, 1) := by decide +kernel
theorem dX7_image_1 : decode cX7_image 1 = .ok (.getfield 7, 3) := by decide +kernel
theorem dX7_image_4 : decode cX7_image 4 = .ok (.aload_n 0, 1) := by decide +kernel
theorem dX7_image_5 : decode cX7_image 5 = .ok (.getfield 13, 3) := by decide +kernel
theorem dX7_image_8 : decode cX7_image 8 = .ok (.invokestatic 253, 3) := by decide +kernel
theorem dX7_image_11 : decode cX7_image 11 = .ok (.aload_n 0, 1) := by decide +kernel
theorem dX7_image_12 : decode cX7_image 12 = .ok (.dup, 1) := by decide +kernel
theorem dX7_image_13 : decode cX7_image 13 = .ok (.getfield 257, 3) := by decide +kernel
theorem dX7_image_16 : decode cX7_image 16 = .ok (.iconst 1, 1) := by decide +kernel
theorem dX7_image_17 : decode cX7_image 17 = .ok (.iadd, 1) := by decide +kernel
theorem dX7_image_18 : decode cX7_image 18 = .ok (.putfield 257, 3) := by decide +kernel
theorem dX7_image_21 : decode cX7_image 21 = .ok (.aload_n 0, 1) := by decide +kernel
theorem dX7_image_22 : decode cX7_image 22 = .ok (.getfield 257, 3) := by decide +kernel
theorem dX7_image_25 : decode cX7_image 25 = .ok (.ireturn, 1) := by decide +kernel
theorem dX7_restore_0 : decode cX7_restore 0 = .ok (.aload_n 0, 1) := by decide +kernel
theorem dX7_restore_1 : decode cX7_restore 1 = .ok (.getfield 257, 3) := by decide +kernel
theorem dX7_restore_4 : decode cX7_restore 4 = .ok (.ifCond .ne 9, 3) := by decide +kernel
theorem dX7_restore_7 : decode cX7_restore 7 = .ok (.aload_n 0, 1) := by decide +kernel
theorem dX7_restore_8 : decode cX7_restore 8 = .ok (.iconst 2, 1) := by decide +kernel
theorem dX7_restore_9 : decode cX7_restore 9 = .ok (.invokevirtual 61, 3) := by decide +kernel
theorem dX7_restore_12 : decode cX7_restore 12 = .ok (.ireturn, 1) := by decide +kernel
theorem dX7_restore_13 : decode cX7_restore 13 = .ok (.aload_n 0, 1) := by decide +kernel
theorem dX7_restore_14 : decode cX7_restore 14 = .ok (.getfield 13, 3) := by decide +kernel
theorem dX7_restore_17 : decode cX7_restore 17 = .ok (.aload_n 0, 1) := by decide +kernel
theorem dX7_restore_18 : decode cX7_restore 18 = .ok (.getfield 7, 3) := by decide +kernel
theorem dX7_restore_21 : decode cX7_restore 21 = .ok (.invokestatic 253, 3) := by decide +kernel
theorem dX7_restore_24 : decode cX7_restore 24 = .ok (.aload_n 0, 1) := by decide +kernel
theorem dX7_restore_25 : decode cX7_restore 25 = .ok (.getfield 7, 3) := by decide +kernel
theorem dX7_restore_28 : decode cX7_restore 28 = .ok (.iconst 0, 1) := by decide +kernel
theorem dX7_restore_29 : decode cX7_restore 29 = .ok (.iaload, 1) := by decide +kernel
theorem dX7_restore_30 : decode cX7_restore 30 = .ok (.ireturn, 1) := by decide +kernel
theorem dX7_tell_0 : decode cX7_tell 0 = .ok (.aload_n 0, 1) := by decide +kernel
theorem dX7_tell_1 : decode cX7_tell 1 = .ok (.getfield 7, 3) := by decide +kernel
theorem dX7_tell_4 : decode cX7_tell 4 = .ok (.iconst 3, 1) := by decide +kernel
theorem dX7_tell_5 : decode cX7_tell 5 = .ok (.iaload, 1) := by decide +kernel
theorem dX7_tell_6 : decode cX7_tell 6 = .ok (.bipush 24, 2) := by decide +kernel
theorem dX7_tell_8 : decode cX7_tell 8 = .ok (.if_icmp .ne 9, 3) := by decide +kernel
theorem dX7_tell_11 : decode cX7_tell 11 = .ok (.aload_n 0, 1) := by decide +kernel
theorem dX7_tell_12 : decode cX7_tell 12 = .ok (.iconst 4, 1) := by decide +kernel
theorem dX7_tell_13 : decode cX7_tell 13 = .ok (.invokevirtual 61, 3) := by decide +kernel
theorem dX7_tell_16 : decode cX7_tell 16 = .ok (.ireturn, 1) := by decide +kernel
theorem dX7_tell_17 : decode cX7_tell 17 = .ok (.aload_n 0, 1) := by decide +kernel
theorem dX7_tell_18 : decode cX7_tell 18 = .ok (.getfield 7, 3) := by decide +kernel
theorem dX7_tell_21 : decode cX7_tell 21 = .ok (.sipush 358, 3) := by decide +kernel
theorem dX7_tell_24 : decode cX7_tell 24 = .ok (.aload_n 0, 1) := by decide +kernel
theorem dX7_tell_25 : decode cX7_tell 25 = .ok (.getfield 7, 3) := by decide +kernel
theorem dX7_tell_28 : decode cX7_tell 28 = .ok (.iconst 3, 1) := by decide +kernel
theorem dX7_tell_29 : decode cX7_tell 29 = .ok (.iaload, 1) := by decide +kernel
theorem dX7_tell_30 : decode cX7_tell 30 = .ok (.iadd, 1) := by decide +kernel
theorem dX7_tell_31 : decode cX7_tell 31 = .ok (.iload_n 1, 1) := by decide +kernel
theorem dX7_tell_32 : decode cX7_tell 32 = .ok (.iastore, 1) := by decide +kernel
theorem dX7_tell_33 : decode cX7_tell 33 = .ok (.aload_n 0, 1) := by decide +kernel
theorem dX7_tell_34 : decode cX7_tell 34 = .ok (.getfield 7, 3) := by decide +kernel
theorem dX7_tell_37 : decode cX7_tell 37 = .ok (.iconst 3, 1) := by decide +kernel
theorem dX7_tell_38 : decode cX7_tell 38 = .ok (.dup2, 1) := by decide +kernel
theorem dX7_tell_39 : decode cX7_tell 39 = .ok (.iaload, 1) := by decide +kernel
theorem dX7_tell_40 : decode cX7_tell 40 = .ok (.iconst 1, 1) := by decide +kernel
theorem dX7_tell_41 : decode cX7_tell 41 = .ok (.iadd, 1) := by decide +kernel
theorem dX7_tell_42 : decode cX7_tell 42 = .ok (.iastore, 1) := by decide +kernel
theorem dX7_tell_43 : decode cX7_tell 43 = .ok (.aload_n 0, 1) := by decide +kernel
theorem dX7_tell_44 : decode cX7_tell 44 = .ok (.getfield 7, 3) := by decide +kernel
theorem dX7_tell_47 : decode cX7_tell 47 = .ok (.iconst 3, 1) := by decide +kernel
theorem dX7_tell_48 : decode cX7_tell 48 = .ok (.iaload, 1) := by decide +kernel
theorem dX7_tell_49 : decode cX7_tell 49 = .ok (.ireturn, 1) := by decide +kernel
theorem dX7_check_0 : decode cX7_check 0 = .ok (.aload_n 0, 1) := by decide +kernel
theorem dX7_check_1 : decode cX7_check 1 = .ok (.getfield 7, 3) := by decide +kernel
theorem dX7_check_4 : decode cX7_check 4 = .ok (.iconst 3, 1) := by decide +kernel
theorem dX7_check_5 : decode cX7_check 5 = .ok (.iaload, 1) := by decide +kernel
theorem dX7_check_6 : decode cX7_check 6 = .ok (.istore_n 1, 1) := by decide +kernel
theorem dX7_check_7 : decode cX7_check 7 = .ok (.aload_n 0, 1) := by decide +kernel
theorem dX7_check_8 : decode cX7_check 8 = .ok (.getfield 7, 3) := by decide +kernel
theorem dX7_check_11 : decode cX7_check 11 = .ok (.iconst 3, 1) := by decide +kernel
theorem dX7_check_12 : decode cX7_check 12 = .ok (.iconst 0, 1) := by decide +kernel
theorem dX7_check_13 : decode cX7_check 13 = .ok (.iastore, 1) := by decide +kernel
theorem dX7_check_14 : decode cX7_check 14 = .ok (.iconst 0, 1) := by decide +kernel
theorem dX7_check_15 : decode cX7_check 15 = .ok (.istore_n 2, 1) := by decide +kernel
theorem dX7_check_16 : decode cX7_check 16 = .ok (.iload_n 2, 1) := by decide +kernel
theorem dX7_check_17 : decode cX7_check 17 = .ok (.iload_n 1, 1) := by decide +kernel
theorem dX7_check_18 : decode cX7_check 18 = .ok (.if_icmp .ge 40, 3) := by decide +kernel
theorem dX7_check_21 : decode cX7_check 21 = .ok (.aload_n 0, 1) := by decide +kernel
theorem dX7_check_22 : decode cX7_check 22 = .ok (.iload_n 2, 1) := by decide +kernel
theorem dX7_check_23 : decode cX7_check 23 = .ok (.invokevirtual 57, 3) := by decide +kernel
theorem dX7_check_26 : decode cX7_check 26 = .ok (.ifCond .eq 22, 3) := by decide +kernel
theorem dX7_check_29 : decode cX7_check 29 = .ok (.aload_n 0, 1) := by decide +kernel
theorem dX7_check_30 : decode cX7_check 30 = .ok (.getfield 7, 3) := by decide +kernel
theorem dX7_check_33 : decode cX7_check 33 = .ok (.sipush 358, 3) := by decide +kernel
theorem dX7_check_36 : decode cX7_check 36 = .ok (.iload_n 2, 1) := by decide +kernel
theorem dX7_check_37 : decode cX7_check 37 = .ok (.iadd, 1) := by decide +kernel
theorem dX7_check_38 : decode cX7_check 38 = .ok (.iaload, 1) := by decide +kernel
theorem dX7_check_39 : decode cX7_check 39 = .ok (.aload_n 0, 1) := by decide +kernel
theorem dX7_check_40 : decode cX7_check 40 = .ok (.iload_n 2, 1) := by decide +kernel
theorem dX7_check_41 : decode cX7_check 41 = .ok (.iconst 2, 1) := by decide +kernel
theorem dX7_check_42 : decode cX7_check 42 = .ok (.invokevirtual 120, 3) := by decide +kernel
theorem dX7_check_45 : decode cX7_check 45 = .ok (.if_icmp .eq 7, 3) := by decide +kernel
theorem dX7_check_48 : decode cX7_check 48 = .ok (.iconst 1, 1) := by decide +kernel
theorem dX7_check_49 : decode cX7_check 49 = .ok (.iload_n 2, 1) := by decide +kernel
theorem dX7_check_50 : decode cX7_check 50 = .ok (.iadd, 1) := by decide +kernel
theorem dX7_check_51 : decode cX7_check 51 = .ok (.ireturn, 1) := by decide +kernel
theorem dX7_check_52 : decode cX7_check 52 = .ok (.iinc 2 1, 3) := by decide +kernel
theorem dX7_check_55 : decode cX7_check 55 = .ok (.goto (-39), 3) := by decide +kernel
theorem dX7_check_58 : decode cX7_check 58 = .ok (.iconst 0, 1) := by decide +kernel
theorem dX7_check_59 : decode cX7_check 59 = .ok (.ireturn, 1) := by decide +kernel
theorem dX7_count_0 : decode cX7_count 0 = .ok (.iload_n 1, 1) := by decide +kernel
theorem dX7_count_1 : decode cX7_count 1 = .ok (.tableswitch 88 0 6 #[43, 50, 57, 62, 69, 76, 81], 43) := by decide +kernel
theorem dX7_count_44 : decode cX7_count 44 = .ok (.aload_n 0, 1) := by decide +kernel
theorem dX7_count_45 : decode cX7_count 45 = .ok (.getfield 7, 3) := by decide +kernel
theorem dX7_count_48 : decode cX7_count 48 = .ok (.iconst 4, 1) := by decide +kernel
theorem dX7_count_49 : decode cX7_count 49 = .ok (.iaload, 1) := by decide +kernel
theorem dX7_count_50 : decode cX7_count 50 = .ok (.ireturn, 1) := by decide +kernel
theorem dX7_count_51 : decode cX7_count 51 = .ok (.aload_n 0, 1) := by decide +kernel
theorem dX7_count_52 : decode cX7_count 52 = .ok (.getfield 7, 3) := by decide +kernel
theorem dX7_count_55 : decode cX7_count 55 = .ok (.iconst 0, 1) := by decide +kernel
theorem dX7_count_56 : decode cX7_count 56 = .ok (.iaload, 1) := by decide +kernel
theorem dX7_count_57 : decode cX7_count 57 = .ok (.ireturn, 1) := by decide +kernel
theorem dX7_count_58 : decode cX7_count 58 = .ok (.aload_n 0, 1) := by decide +kernel
theorem dX7_count_59 : decode cX7_count 59 = .ok (.invokevirtual 188, 3) := by decide +kernel
theorem dX7_count_62 : decode cX7_count 62 = .ok (.ireturn, 1) := by decide +kernel
theorem dX7_count_63 : decode cX7_count 63 = .ok (.aload_n 0, 1) := by decide +kernel
theorem dX7_count_64 : decode cX7_count 64 = .ok (.getfield 7, 3) := by decide +kernel
theorem dX7_count_67 : decode cX7_count 67 = .ok (.iconst 2, 1) := by decide +kernel
theorem dX7_count_68 : decode cX7_count 68 = .ok (.iaload, 1) := by decide +kernel
theorem dX7_count_69 : decode cX7_count 69 = .ok (.ireturn, 1) := by decide +kernel
theorem dX7_count_70 : decode cX7_count 70 = .ok (.aload_n 0, 1) := by decide +kernel
theorem dX7_count_71 : decode cX7_count 71 = .ok (.getfield 7, 3) := by decide +kernel
theorem dX7_count_74 : decode cX7_count 74 = .ok (.iconst 3, 1) := by decide +kernel
theorem dX7_count_75 : decode cX7_count 75 = .ok (.iaload, 1) := by decide +kernel
theorem dX7_count_76 : decode cX7_count 76 = .ok (.ireturn, 1) := by decide +kernel
theorem dX7_count_77 : decode cX7_count 77 = .ok (.aload_n 0, 1) := by decide +kernel
theorem dX7_count_78 : decode cX7_count 78 = .ok (.getfield 219, 3) := by decide +kernel
theorem dX7_count_81 : decode cX7_count 81 = .ok (.ireturn, 1) := by decide +kernel
theorem dX7_count_82 : decode cX7_count 82 = .ok (.aload_n 0, 1) := by decide +kernel
theorem dX7_count_83 : decode cX7_count 83 = .ok (.getfield 7, 3) := by decide +kernel
theorem dX7_count_86 : decode cX7_count 86 = .ok (.iconst 1, 1) := by decide +kernel
theorem dX7_count_87 : decode cX7_count 87 = .ok (.iaload, 1) := by decide +kernel
theorem dX7_count_88 : decode cX7_count 88 = .ok (.ireturn, 1) := by decide +kernel
theorem dX7_count_89 : decode cX7_count 89 = .ok (.aload_n 0, 1) := by decide +kernel
theorem dX7_count_90 : decode cX7_count 90 = .ok (.iconst 1, 1) := by decide +kernel
theorem dX7_count_91 : decode cX7_count 91 = .ok (.invokevirtual 61, 3) := by decide +kernel
theorem dX7_count_94 : decode cX7_count 94 = .ok (.ireturn, 1) := by decide +kernel
theorem dX7_told_0 : decode cX7_told 0 = .ok (.iload_n 1, 1) := by decide +kernel
theorem dX7_told_1 : decode cX7_told 1 = .ok (.iconst 1, 1) := by decide +kernel
theorem dX7_told_2 : decode cX7_told 2 = .ok (.bipush 6, 2) := by decide +kernel
theorem dX7_told_4 : decode cX7_told 4 = .ok (.invokestatic 53, 3) := by decide +kernel
theorem dX7_told_7 : decode cX7_told 7 = .ok (.ifCond .eq 12, 3) := by decide +kernel
theorem dX7_told_10 : decode cX7_told 10 = .ok (.aload_n 0, 1) := by decide +kernel
theorem dX7_told_11 : decode cX7_told 11 = .ok (.getfield 19, 3) := by decide +kernel
theorem dX7_told_14 : decode cX7_told 14 = .ok (.iload_n 1, 1) := by decide +kernel
theorem dX7_told_15 : decode cX7_told 15 = .ok (.iaload, 1) := by decide +kernel
theorem dX7_told_16 : decode cX7_told 16 = .ok (.goto 8, 3) := by decide +kernel
theorem dX7_told_19 : decode cX7_told 19 = .ok (.aload_n 0, 1) := by decide +kernel
theorem dX7_told_20 : decode cX7_told 20 = .ok (.iconst 1, 1) := by decide +kernel
theorem dX7_told_21 : decode cX7_told 21 = .ok (.invokevirtual 61, 3) := by decide +kernel
theorem dX7_told_24 : decode cX7_told 24 = .ok (.ireturn, 1) := by decide +kernel
theorem dJ11_isValidCodePoint_9a6ad_0 : decode cJ11_isValidCodePoint_9a6ad 0 = .ok (.iload_n 0, 1) := by decide +kernel
theorem dJ11_isValidCodePoint_9a6ad_1 : decode cJ11_isValidCodePoint_9a6ad 1 = .ok (.bipush 16, 2) := by decide +kernel
theorem dJ11_isValidCodePoint_9a6ad_3 : decode cJ11_isValidCodePoint_9a6ad 3 = .ok (.iushr, 1) := by decide +kernel
theorem dJ11_isValidCodePoint_9a6ad_4 : decode cJ11_isValidCodePoint_9a6ad 4 = .ok (.istore_n 1, 1) := by decide +kernel
theorem dJ11_isValidCodePoint_9a6ad_5 : decode cJ11_isValidCodePoint_9a6ad 5 = .ok (.iload_n 1, 1) := by decide +kernel
theorem dJ11_isValidCodePoint_9a6ad_6 : decode cJ11_isValidCodePoint_9a6ad 6 = .ok (.bipush 17, 2) := by decide +kernel
theorem dJ11_isValidCodePoint_9a6ad_8 : decode cJ11_isValidCodePoint_9a6ad 8 = .ok (.if_icmp .ge 7, 3) := by decide +kernel
theorem dJ11_isValidCodePoint_9a6ad_11 : decode cJ11_isValidCodePoint_9a6ad 11 = .ok (.iconst 1, 1) := by decide +kernel
theorem dJ11_isValidCodePoint_9a6ad_12 : decode cJ11_isValidCodePoint_9a6ad 12 = .ok (.goto 4, 3) := by decide +kernel
theorem dJ11_isValidCodePoint_9a6ad_15 : decode cJ11_isValidCodePoint_9a6ad 15 = .ok (.iconst 0, 1) := by decide +kernel
theorem dJ11_isValidCodePoint_9a6ad_16 : decode cJ11_isValidCodePoint_9a6ad 16 = .ok (.ireturn, 1) := by decide +kernel
theorem dJ11_highSurrogate_5068e_0 : decode cJ11_highSurrogate_5068e 0 = .ok (.iload_n 0, 1) := by decide +kernel
theorem dJ11_highSurrogate_5068e_1 : decode cJ11_highSurrogate_5068e 1 = .ok (.bipush 10, 2) := by decide +kernel
theorem dJ11_highSurrogate_5068e_3 : decode cJ11_highSurrogate_5068e 3 = .ok (.iushr, 1) := by decide +kernel
theorem dJ11_highSurrogate_5068e_4 : decode cJ11_highSurrogate_5068e 4 = .ok (.ldc 110, 2) := by decide +kernel
theorem dJ11_highSurrogate_5068e_6 : decode cJ11_highSurrogate_5068e 6 = .ok (.iadd, 1) := by decide +kernel
theorem dJ11_highSurrogate_5068e_7 : decode cJ11_highSurrogate_5068e 7 = .ok (.i2c, 1) := by decide +kernel
theorem dJ11_highSurrogate_5068e_8 : decode cJ11_highSurrogate_5068e 8 = .ok (.ireturn, 1) := by decide +kernel
theorem dJ11_lowSurrogate_5068e_0 : decode cJ11_lowSurrogate_5068e 0 = .ok (.iload_n 0, 1) := by decide +kernel
theorem dJ11_lowSurrogate_5068e_1 : decode cJ11_lowSurrogate_5068e 1 = .ok (.sipush 1023, 3) := by decide +kernel
theorem dJ11_lowSurrogate_5068e_4 : decode cJ11_lowSurrogate_5068e 4 = .ok (.iand, 1) := by decide +kernel
theorem dJ11_lowSurrogate_5068e_5 : decode cJ11_lowSurrogate_5068e 5 = .ok (.ldc 76, 2) := by decide +kernel
theorem dJ11_lowSurrogate_5068e_7 : decode cJ11_lowSurrogate_5068e 7 = .ok (.iadd, 1) := by decide +kernel
theorem dJ11_lowSurrogate_5068e_8 : decode cJ11_lowSurrogate_5068e 8 = .ok (.i2c, 1) := by decide +kernel
theorem dJ11_lowSurrogate_5068e_9 : decode cJ11_lowSurrogate_5068e 9 = .ok (.ireturn, 1) := by decide +kernel
theorem dJ6_bitCount_0f7a4_0 : decode cJ6_bitCount_0f7a4 0 = .ok (.iload_n 0, 1) := by decide +kernel
theorem dJ6_bitCount_0f7a4_1 : decode cJ6_bitCount_0f7a4 1 = .ok (.iload_n 0, 1) := by decide +kernel
theorem dJ6_bitCount_0f7a4_2 : decode cJ6_bitCount_0f7a4 2 = .ok (.iconst 1, 1) := by decide +kernel
theorem dJ6_bitCount_0f7a4_3 : decode cJ6_bitCount_0f7a4 3 = .ok (.iushr, 1) := by decide +kernel
theorem dJ6_bitCount_0f7a4_4 : decode cJ6_bitCount_0f7a4 4 = .ok (.ldc_w 265, 3) := by decide +kernel
theorem dJ6_bitCount_0f7a4_7 : decode cJ6_bitCount_0f7a4 7 = .ok (.iand, 1) := by decide +kernel
theorem dJ6_bitCount_0f7a4_8 : decode cJ6_bitCount_0f7a4 8 = .ok (.isub, 1) := by decide +kernel
theorem dJ6_bitCount_0f7a4_9 : decode cJ6_bitCount_0f7a4 9 = .ok (.istore_n 0, 1) := by decide +kernel
theorem dJ6_bitCount_0f7a4_10 : decode cJ6_bitCount_0f7a4 10 = .ok (.iload_n 0, 1) := by decide +kernel
theorem dJ6_bitCount_0f7a4_11 : decode cJ6_bitCount_0f7a4 11 = .ok (.ldc_w 266, 3) := by decide +kernel
theorem dJ6_bitCount_0f7a4_14 : decode cJ6_bitCount_0f7a4 14 = .ok (.iand, 1) := by decide +kernel
theorem dJ6_bitCount_0f7a4_15 : decode cJ6_bitCount_0f7a4 15 = .ok (.iload_n 0, 1) := by decide +kernel
theorem dJ6_bitCount_0f7a4_16 : decode cJ6_bitCount_0f7a4 16 = .ok (.iconst 2, 1) := by decide +kernel
theorem dJ6_bitCount_0f7a4_17 : decode cJ6_bitCount_0f7a4 17 = .ok (.iushr, 1) := by decide +kernel
theorem dJ6_bitCount_0f7a4_18 : decode cJ6_bitCount_0f7a4 18 = .ok (.ldc_w 266, 3) := by decide +kernel
theorem dJ6_bitCount_0f7a4_21 : decode cJ6_bitCount_0f7a4 21 = .ok (.iand, 1) := by decide +kernel
theorem dJ6_bitCount_0f7a4_22 : decode cJ6_bitCount_0f7a4 22 = .ok (.iadd, 1) := by decide +kernel
theorem dJ6_bitCount_0f7a4_23 : decode cJ6_bitCount_0f7a4 23 = .ok (.istore_n 0, 1) := by decide +kernel
theorem dJ6_bitCount_0f7a4_24 : decode cJ6_bitCount_0f7a4 24 = .ok (.iload_n 0, 1) := by decide +kernel
theorem dJ6_bitCount_0f7a4_25 : decode cJ6_bitCount_0f7a4 25 = .ok (.iload_n 0, 1) := by decide +kernel
theorem dJ6_bitCount_0f7a4_26 : decode cJ6_bitCount_0f7a4 26 = .ok (.iconst 4, 1) := by decide +kernel
theorem dJ6_bitCount_0f7a4_27 : decode cJ6_bitCount_0f7a4 27 = .ok (.iushr, 1) := by decide +kernel
theorem dJ6_bitCount_0f7a4_28 : decode cJ6_bitCount_0f7a4 28 = .ok (.iadd, 1) := by decide +kernel
theorem dJ6_bitCount_0f7a4_29 : decode cJ6_bitCount_0f7a4 29 = .ok (.ldc_w 267, 3) := by decide +kernel
theorem dJ6_bitCount_0f7a4_32 : decode cJ6_bitCount_0f7a4 32 = .ok (.iand, 1) := by decide +kernel
theorem dJ6_bitCount_0f7a4_33 : decode cJ6_bitCount_0f7a4 33 = .ok (.istore_n 0, 1) := by decide +kernel
theorem dJ6_bitCount_0f7a4_34 : decode cJ6_bitCount_0f7a4 34 = .ok (.iload_n 0, 1) := by decide +kernel
theorem dJ6_bitCount_0f7a4_35 : decode cJ6_bitCount_0f7a4 35 = .ok (.iload_n 0, 1) := by decide +kernel
theorem dJ6_bitCount_0f7a4_36 : decode cJ6_bitCount_0f7a4 36 = .ok (.bipush 8, 2) := by decide +kernel
theorem dJ6_bitCount_0f7a4_38 : decode cJ6_bitCount_0f7a4 38 = .ok (.iushr, 1) := by decide +kernel
theorem dJ6_bitCount_0f7a4_39 : decode cJ6_bitCount_0f7a4 39 = .ok (.iadd, 1) := by decide +kernel
theorem dJ6_bitCount_0f7a4_40 : decode cJ6_bitCount_0f7a4 40 = .ok (.istore_n 0, 1) := by decide +kernel
theorem dJ6_bitCount_0f7a4_41 : decode cJ6_bitCount_0f7a4 41 = .ok (.iload_n 0, 1) := by decide +kernel
theorem dJ6_bitCount_0f7a4_42 : decode cJ6_bitCount_0f7a4 42 = .ok (.iload_n 0, 1) := by decide +kernel
theorem dJ6_bitCount_0f7a4_43 : decode cJ6_bitCount_0f7a4 43 = .ok (.bipush 16, 2) := by decide +kernel
theorem dJ6_bitCount_0f7a4_45 : decode cJ6_bitCount_0f7a4 45 = .ok (.iushr, 1) := by decide +kernel
theorem dJ6_bitCount_0f7a4_46 : decode cJ6_bitCount_0f7a4 46 = .ok (.iadd, 1) := by decide +kernel
theorem dJ6_bitCount_0f7a4_47 : decode cJ6_bitCount_0f7a4 47 = .ok (.istore_n 0, 1) := by decide +kernel
theorem dJ6_bitCount_0f7a4_48 : decode cJ6_bitCount_0f7a4 48 = .ok (.iload_n 0, 1) := by decide +kernel
theorem dJ6_bitCount_0f7a4_49 : decode cJ6_bitCount_0f7a4 49 = .ok (.bipush 63, 2) := by decide +kernel
theorem dJ6_bitCount_0f7a4_51 : decode cJ6_bitCount_0f7a4 51 = .ok (.iand, 1) := by decide +kernel
theorem dJ6_bitCount_0f7a4_52 : decode cJ6_bitCount_0f7a4 52 = .ok (.ireturn, 1) := by decide +kernel
theorem dJ9_max_7cf53_0 : decode cJ9_max_7cf53 0 = .ok (.iload_n 0, 1) := by decide +kernel
theorem dJ9_max_7cf53_1 : decode cJ9_max_7cf53 1 = .ok (.iload_n 1, 1) := by decide +kernel
theorem dJ9_max_7cf53_2 : decode cJ9_max_7cf53 2 = .ok (.if_icmp .lt 7, 3) := by decide +kernel
theorem dJ9_max_7cf53_5 : decode cJ9_max_7cf53 5 = .ok (.iload_n 0, 1) := by decide +kernel
theorem dJ9_max_7cf53_6 : decode cJ9_max_7cf53 6 = .ok (.goto 4, 3) := by decide +kernel
theorem dJ9_max_7cf53_9 : decode cJ9_max_7cf53 9 = .ok (.iload_n 1, 1) := by decide +kernel
theorem dJ9_max_7cf53_10 : decode cJ9_max_7cf53 10 = .ok (.ireturn, 1) := by decide +kernel
theorem dJ9_min_7cf53_0 : decode cJ9_min_7cf53 0 = .ok (.iload_n 0, 1) := by decide +kernel
theorem dJ9_min_7cf53_1 : decode cJ9_min_7cf53 1 = .ok (.iload_n 1, 1) := by decide +kernel
theorem dJ9_min_7cf53_2 : decode cJ9_min_7cf53 2 = .ok (.if_icmp .gt 7, 3) := by decide +kernel
theorem dJ9_min_7cf53_5 : decode cJ9_min_7cf53 5 = .ok (.iload_n 0, 1) := by decide +kernel
theorem dJ9_min_7cf53_6 : decode cJ9_min_7cf53 6 = .ok (.goto 4, 3) := by decide +kernel
theorem dJ9_min_7cf53_9 : decode cJ9_min_7cf53 9 = .ok (.iload_n 1, 1) := by decide +kernel
theorem dJ9_min_7cf53_10 : decode cJ9_min_7cf53 10 = .ok (.ireturn, 1) := by decide +kernel
theorem dJ0_length_8abf5_0 : decode cJ0_length_8abf5 0 = .ok (.aload_n 0, 1) := by decide +kernel
theorem dJ0_length_8abf5_1 : decode cJ0_length_8abf5 1 = .ok (.getfield 9, 3) := by decide +kernel
theorem dJ0_length_8abf5_4 : decode cJ0_length_8abf5 4 = .ok (.arraylength, 1) := by decide +kernel
theorem dJ0_length_8abf5_5 : decode cJ0_length_8abf5 5 = .ok (.aload_n 0, 1) := by decide +kernel
theorem dJ0_length_8abf5_6 : decode cJ0_length_8abf5 6 = .ok (.invokevirtual 335, 3) := by decide +kernel
theorem dJ0_length_8abf5_9 : decode cJ0_length_8abf5 9 = .ok (.ishr, 1) := by decide +kernel
theorem dJ0_length_8abf5_10 : decode cJ0_length_8abf5 10 = .ok (.ireturn, 1) := by decide +kernel
theorem dJ0_indexOf_0f7a4_0 : decode cJ0_indexOf_0f7a4 0 = .ok (.aload_n 0, 1) := by decide +kernel
theorem dJ0_indexOf_0f7a4_1 : decode cJ0_indexOf_0f7a4 1 = .ok (.iload_n 1, 1) := by decide +kernel
theorem dJ0_indexOf_0f7a4_2 : decode cJ0_indexOf_0f7a4 2 = .ok (.iconst 0, 1) := by decide +kernel
theorem dJ0_indexOf_0f7a4_3 : decode cJ0_indexOf_0f7a4 3 = .ok (.invokevirtual 633, 3) := by decide +kernel
theorem dJ0_indexOf_0f7a4_6 : decode cJ0_indexOf_0f7a4 6 = .ok (.ireturn, 1) := by decide +kernel
theorem dJ0_indexOf_7cf53_0 : decode cJ0_indexOf_7cf53 0 = .ok (.aload_n 0, 1) := by decide +kernel
theorem dJ0_indexOf_7cf53_1 : decode cJ0_indexOf_7cf53 1 = .ok (.invokevirtual 492, 3) := by decide +kernel
theorem dJ0_indexOf_7cf53_4 : decode cJ0_indexOf_7cf53 4 = .ok (.ifCond .eq 19, 3) := by decide +kernel
theorem dJ0_indexOf_7cf53_7 : decode cJ0_indexOf_7cf53 7 = .ok (.aload_n 0, 1) := by decide +kernel
theorem dJ0_indexOf_7cf53_8 : decode cJ0_indexOf_7cf53 8 = .ok (.getfield 9, 3) := by decide +kernel
theorem dJ0_indexOf_7cf53_11 : decode cJ0_indexOf_7cf53 11 = .ok (.iload_n 1, 1) := by decide +kernel
theorem dJ0_indexOf_7cf53_12 : decode cJ0_indexOf_7cf53 12 = .ok (.iload_n 2, 1) := by decide +kernel
theorem dJ0_indexOf_7cf53_13 : decode cJ0_indexOf_7cf53 13 = .ok (.aload_n 0, 1) := by decide +kernel
theorem dJ0_indexOf_7cf53_14 : decode cJ0_indexOf_7cf53 14 = .ok (.invokevirtual 505, 3) := by decide +kernel
theorem dJ0_indexOf_7cf53_17 : decode cJ0_indexOf_7cf53 17 = .ok (.invokestatic 637, 3) := by decide +kernel
theorem dJ0_indexOf_7cf53_20 : decode cJ0_indexOf_7cf53 20 = .ok (.goto 16, 3) := by decide +kernel
theorem dJ0_indexOf_7cf53_23 : decode cJ0_indexOf_7cf53 23 = .ok (.aload_n 0, 1) := by decide +kernel
theorem dJ0_indexOf_7cf53_24 : decode cJ0_indexOf_7cf53 24 = .ok (.getfield 9, 3) := by decide +kernel
theorem dJ0_indexOf_7cf53_27 : decode cJ0_indexOf_7cf53 27 = .ok (.iload_n 1, 1) := by decide +kernel
theorem dJ0_indexOf_7cf53_28 : decode cJ0_indexOf_7cf53 28 = .ok (.iload_n 2, 1) := by decide +kernel
theorem dJ0_indexOf_7cf53_29 : decode cJ0_indexOf_7cf53 29 = .ok (.aload_n 0, 1) := by decide +kernel
theorem dJ0_indexOf_7cf53_30 : decode cJ0_indexOf_7cf53 30 = .ok (.invokevirtual 505, 3) := by decide +kernel
theorem dJ0_indexOf_7cf53_33 : decode cJ0_indexOf_7cf53 33 = .ok (.invokestatic 640, 3) := by decide +kernel
theorem dJ0_indexOf_7cf53_36 : decode cJ0_indexOf_7cf53 36 = .ok (.ireturn, 1) := by decide +kernel
theorem dJ0_coder_7d493_0 : decode cJ0_coder_7d493 0 = .ok (.getstatic 38, 3) := by decide +kernel
theorem dJ0_coder_7d493_3 : decode cJ0_coder_7d493 3 = .ok (.ifCond .eq 10, 3) := by decide +kernel
theorem dJ0_coder_7d493_6 : decode cJ0_coder_7d493 6 = .ok (.aload_n 0, 1) := by decide +kernel
theorem dJ0_coder_7d493_7 : decode cJ0_coder_7d493 7 = .ok (.getfield 15, 3) := by decide +kernel
theorem dJ0_coder_7d493_10 : decode cJ0_coder_7d493 10 = .ok (.goto 4, 3) := by decide +kernel
theorem dJ0_coder_7d493_13 : decode cJ0_coder_7d493 13 = .ok (.iconst 1, 1) := by decide +kernel
theorem dJ0_coder_7d493_14 : decode cJ0_coder_7d493 14 = .ok (.ireturn, 1) := by decide +kernel
theorem dJ0_isLatin1_aae02_0 : decode cJ0_isLatin1_aae02 0 = .ok (.getstatic 38, 3) := by decide +kernel
theorem dJ0_isLatin1_aae02_3 : decode cJ0_isLatin1_aae02 3 = .ok (.ifCond .eq 14, 3) := by decide +kernel
theorem dJ0_isLatin1_aae02_6 : decode cJ0_isLatin1_aae02 6 = .ok (.aload_n 0, 1) := by decide +kernel
theorem dJ0_isLatin1_aae02_7 : decode cJ0_isLatin1_aae02 7 = .ok (.getfield 15, 3) := by decide +kernel
theorem dJ0_isLatin1_aae02_10 : decode cJ0_isLatin1_aae02 10 = .ok (.ifCond .ne 7, 3) := by decide +kernel
theorem dJ0_isLatin1_aae02_13 : decode cJ0_isLatin1_aae02 13 = .ok (.iconst 1, 1) := by decide +kernel
theorem dJ0_isLatin1_aae02_14 : decode cJ0_isLatin1_aae02 14 = .ok (.goto 4, 3) := by decide +kernel
theorem dJ0_isLatin1_aae02_17 : decode cJ0_isLatin1_aae02 17 = .ok (.iconst 0, 1) := by decide +kernel
theorem dJ0_isLatin1_aae02_18 : decode cJ0_isLatin1_aae02 18 = .ok (.ireturn, 1) := by decide +kernel
theorem dJ0_checkBoundsBeginEnd_23922_0 : decode cJ0_checkBoundsBeginEnd_23922 0 = .ok (.iload_n 0, 1) := by decide +kernel
theorem dJ0_checkBoundsBeginEnd_23922_1 : decode cJ0_checkBoundsBeginEnd_23922 1 = .ok (.iload_n 1, 1) := by decide +kernel
theorem dJ0_checkBoundsBeginEnd_23922_2 : decode cJ0_checkBoundsBeginEnd_23922 2 = .ok (.iload_n 2, 1) := by decide +kernel
theorem dJ0_checkBoundsBeginEnd_23922_3 : decode cJ0_checkBoundsBeginEnd_23922 3 = .ok (.getstatic 1053, 3) := by decide +kernel
theorem dJ0_checkBoundsBeginEnd_23922_6 : decode cJ0_checkBoundsBeginEnd_23922 6 = .ok (.invokestatic 1062, 3) := by decide +kernel
theorem dJ0_checkBoundsBeginEnd_23922_9 : decode cJ0_checkBoundsBeginEnd_23922 9 = .ok (.pop, 1) := by decide +kernel
theorem dJ0_checkBoundsBeginEnd_23922_10 : decode cJ0_checkBoundsBeginEnd_23922 10 = .ok (.return_, 1) := by decide +kernel
theorem dJ1_canEncode_9a6ad_0 : decode cJ1_canEncode_9a6ad 0 = .ok (.iload_n 0, 1) := by decide +kernel
theorem dJ1_canEncode_9a6ad_1 : decode cJ1_canEncode_9a6ad 1 = .ok (.ifCond .lt 14, 3) := by decide +kernel
theorem dJ1_canEncode_9a6ad_4 : decode cJ1_canEncode_9a6ad 4 = .ok (.iload_n 0, 1) := by decide +kernel
theorem dJ1_canEncode_9a6ad_5 : decode cJ1_canEncode_9a6ad 5 = .ok (.sipush 255, 3) := by decide +kernel
theorem dJ1_canEncode_9a6ad_8 : decode cJ1_canEncode_9a6ad 8 = .ok (.if_icmp .gt 7, 3) := by decide +kernel
theorem dJ1_canEncode_9a6ad_11 : decode cJ1_canEncode_9a6ad 11 = .ok (.iconst 1, 1) := by decide +kernel
theorem dJ1_canEncode_9a6ad_12 : decode cJ1_canEncode_9a6ad 12 = .ok (.goto 4, 3) := by decide +kernel
theorem dJ1_canEncode_9a6ad_15 : decode cJ1_canEncode_9a6ad 15 = .ok (.iconst 0, 1) := by decide +kernel
theorem dJ1_canEncode_9a6ad_16 : decode cJ1_canEncode_9a6ad 16 = .ok (.ireturn, 1) := by decide +kernel
theorem dJ1_indexOf_4cfef_0 : decode cJ1_indexOf_4cfef 0 = .ok (.iload_n 1, 1) := by decide +kernel
theorem dJ1_indexOf_4cfef_1 : decode cJ1_indexOf_4cfef 1 = .ok (.invokestatic 88, 3) := by decide +kernel
theorem dJ1_indexOf_4cfef_4 : decode cJ1_indexOf_4cfef 4 = .ok (.ifCond .ne 5, 3) := by decide +kernel
theorem dJ1_indexOf_4cfef_7 : decode cJ1_indexOf_4cfef 7 = .ok (.iconst (-1), 1) := by decide +kernel
theorem dJ1_indexOf_4cfef_8 : decode cJ1_indexOf_4cfef 8 = .ok (.ireturn, 1) := by decide +kernel
theorem dJ1_indexOf_4cfef_9 : decode cJ1_indexOf_4cfef 9 = .ok (.iload_n 2, 1) := by decide +kernel
theorem dJ1_indexOf_4cfef_10 : decode cJ1_indexOf_4cfef 10 = .ok (.iconst 0, 1) := by decide +kernel
theorem dJ1_indexOf_4cfef_11 : decode cJ1_indexOf_4cfef 11 = .ok (.invokestatic 92, 3) := by decide +kernel
theorem dJ1_indexOf_4cfef_14 : decode cJ1_indexOf_4cfef 14 = .ok (.istore_n 2, 1) := by decide +kernel
theorem dJ1_indexOf_4cfef_15 : decode cJ1_indexOf_4cfef 15 = .ok (.iload_n 3, 1) := by decide +kernel
theorem dJ1_indexOf_4cfef_16 : decode cJ1_indexOf_4cfef 16 = .ok (.aload_n 0, 1) := by decide +kernel
theorem dJ1_indexOf_4cfef_17 : decode cJ1_indexOf_4cfef 17 = .ok (.arraylength, 1) := by decide +kernel
theorem dJ1_indexOf_4cfef_18 : decode cJ1_indexOf_4cfef 18 = .ok (.invokestatic 38, 3) := by decide +kernel
theorem dJ1_indexOf_4cfef_21 : decode cJ1_indexOf_4cfef 21 = .ok (.istore_n 3, 1) := by decide +kernel
theorem dJ1_indexOf_4cfef_22 : decode cJ1_indexOf_4cfef 22 = .ok (.iload_n 2, 1) := by decide +kernel
theorem dJ1_indexOf_4cfef_23 : decode cJ1_indexOf_4cfef 23 = .ok (.iload_n 3, 1) := by decide +kernel
theorem dJ1_indexOf_4cfef_24 : decode cJ1_indexOf_4cfef 24 = .ok (.if_icmp .lt 5, 3) := by decide +kernel
theorem dJ1_indexOf_4cfef_27 : decode cJ1_indexOf_4cfef 27 = .ok (.iconst (-1), 1) := by decide +kernel
theorem dJ1_indexOf_4cfef_28 : decode cJ1_indexOf_4cfef 28 = .ok (.ireturn, 1) := by decide +kernel
theorem dJ1_indexOf_4cfef_29 : decode cJ1_indexOf_4cfef 29 = .ok (.aload_n 0, 1) := by decide +kernel
theorem dJ1_indexOf_4cfef_30 : decode cJ1_indexOf_4cfef 30 = .ok (.iload_n 1, 1) := by decide +kernel
theorem dJ1_indexOf_4cfef_31 : decode cJ1_indexOf_4cfef 31 = .ok (.iload_n 2, 1) := by decide +kernel
theorem dJ1_indexOf_4cfef_32 : decode cJ1_indexOf_4cfef 32 = .ok (.iload_n 3, 1) := by decide +kernel
theorem dJ1_indexOf_4cfef_33 : decode cJ1_indexOf_4cfef 33 = .ok (.invokestatic 95, 3) := by decide +kernel
theorem dJ1_indexOf_4cfef_36 : decode cJ1_indexOf_4cfef 36 = .ok (.ireturn, 1) := by decide +kernel
theorem dJ1_indexOfChar_4cfef_0 : decode cJ1_indexOfChar_4cfef 0 = .ok (.iload_n 1, 1) := by decide +kernel
theorem dJ1_indexOfChar_4cfef_1 : decode cJ1_indexOfChar_4cfef 1 = .ok (.i2b, 1) := by decide +kernel
theorem dJ1_indexOfChar_4cfef_2 : decode cJ1_indexOfChar_4cfef 2 = .ok (.istore 4, 2) := by decide +kernel
theorem dJ1_indexOfChar_4cfef_4 : decode cJ1_indexOfChar_4cfef 4 = .ok (.iload_n 2, 1) := by decide +kernel
theorem dJ1_indexOfChar_4cfef_5 : decode cJ1_indexOfChar_4cfef 5 = .ok (.istore 5, 2) := by decide +kernel
theorem dJ1_indexOfChar_4cfef_7 : decode cJ1_indexOfChar_4cfef 7 = .ok (.iload 5, 2) := by decide +kernel
theorem dJ1_indexOfChar_4cfef_9 : decode cJ1_indexOfChar_4cfef 9 = .ok (.iload_n 3, 1) := by decide +kernel
theorem dJ1_indexOfChar_4cfef_10 : decode cJ1_indexOfChar_4cfef 10 = .ok (.if_icmp .ge 21, 3) := by decide +kernel
theorem dJ1_indexOfChar_4cfef_13 : decode cJ1_indexOfChar_4cfef 13 = .ok (.aload_n 0, 1) := by decide +kernel
theorem dJ1_indexOfChar_4cfef_14 : decode cJ1_indexOfChar_4cfef 14 = .ok (.iload 5, 2) := by decide +kernel
theorem dJ1_indexOfChar_4cfef_16 : decode cJ1_indexOfChar_4cfef 16 = .ok (.baload, 1) := by decide +kernel
theorem dJ1_indexOfChar_4cfef_17 : decode cJ1_indexOfChar_4cfef 17 = .ok (.iload 4, 2) := by decide +kernel
theorem dJ1_indexOfChar_4cfef_19 : decode cJ1_indexOfChar_4cfef 19 = .ok (.if_icmp .ne 6, 3) := by decide +kernel
theorem dJ1_indexOfChar_4cfef_22 : decode cJ1_indexOfChar_4cfef 22 = .ok (.iload 5, 2) := by decide +kernel
theorem dJ1_indexOfChar_4cfef_24 : decode cJ1_indexOfChar_4cfef 24 = .ok (.ireturn, 1) := by decide +kernel
theorem dJ1_indexOfChar_4cfef_25 : decode cJ1_indexOfChar_4cfef 25 = .ok (.iinc 5 1, 3) := by decide +kernel
theorem dJ1_indexOfChar_4cfef_28 : decode cJ1_indexOfChar_4cfef 28 = .ok (.goto (-21), 3) := by decide +kernel
theorem dJ1_indexOfChar_4cfef_31 : decode cJ1_indexOfChar_4cfef 31 = .ok (.iconst (-1), 1) := by decide +kernel
theorem dJ1_indexOfChar_4cfef_32 : decode cJ1_indexOfChar_4cfef 32 = .ok (.ireturn, 1) := by decide +kernel
end
section
theorem dJ2_getChar_3b067_0 : decode cJ2_getChar_3b067 0 = .ok (.getstatic 44, 3) := by decide +kernel
theorem dJ2_getChar_3b067_3 : decode cJ2_getChar_3b067 3 = .ok (.ifCond .ne 25, 3) := by decide +kernel
theorem dJ2_getChar_3b067_6 : decode cJ2_getChar_3b067 6 = .ok (.iload_n 1, 1) := by decide +kernel
theorem dJ2_getChar_3b067_7 : decode cJ2_getChar_3b067 7 = .ok (.ifCond .lt 11, 3) := by decide +kernel
theorem dJ2_getChar_3b067_10 : decode cJ2_getChar_3b067 10 = .ok (.iload_n 1, 1) := by decide +kernel
theorem dJ2_getChar_3b067_11 : decode cJ2_getChar_3b067 11 = .ok (.aload_n 0, 1) := by decide +kernel
theorem dJ2_getChar_3b067_12 : decode cJ2_getChar_3b067 12 = .ok (.invokestatic 48, 3) := by decide +kernel
theorem dJ2_getChar_3b067_15 : decode cJ2_getChar_3b067 15 = .ok (.if_icmp .lt 13, 3) := by decide +kernel
theorem dJ2_getChar_3b067_18 : decode cJ2_getChar_3b067 18 = .ok (.new 52, 3) := by decide +kernel
theorem dJ2_getChar_3b067_21 : decode cJ2_getChar_3b067 21 = .ok (.dup, 1) := by decide +kernel
theorem dJ2_getChar_3b067_22 : decode cJ2_getChar_3b067 22 = .ok (.ldc 54, 2) := by decide +kernel
theorem dJ2_getChar_3b067_24 : decode cJ2_getChar_3b067 24 = .ok (.invokespecial 56, 3) := by decide +kernel
theorem dJ2_getChar_3b067_27 : decode cJ2_getChar_3b067 27 = .ok (.athrow, 1) := by decide +kernel
theorem dJ2_getChar_3b067_28 : decode cJ2_getChar_3b067 28 = .ok (.iload_n 1, 1) := by decide +kernel
theorem dJ2_getChar_3b067_29 : decode cJ2_getChar_3b067 29 = .ok (.iconst 1, 1) := by decide +kernel
theorem dJ2_getChar_3b067_30 : decode cJ2_getChar_3b067 30 = .ok (.ishl, 1) := by decide +kernel
theorem dJ2_getChar_3b067_31 : decode cJ2_getChar_3b067 31 = .ok (.istore_n 1, 1) := by decide +kernel
theorem dJ2_getChar_3b067_32 : decode cJ2_getChar_3b067 32 = .ok (.aload_n 0, 1) := by decide +kernel
theorem dJ2_getChar_3b067_33 : decode cJ2_getChar_3b067 33 = .ok (.iload_n 1, 1) := by decide +kernel
theorem dJ2_getChar_3b067_34 : decode cJ2_getChar_3b067 34 = .ok (.iinc 1 1, 3) := by decide +kernel
theorem dJ2_getChar_3b067_37 : decode cJ2_getChar_3b067 37 = .ok (.baload, 1) := by decide +kernel
theorem dJ2_getChar_3b067_38 : decode cJ2_getChar_3b067 38 = .ok (.sipush 255, 3) := by decide +kernel
theorem dJ2_getChar_3b067_41 : decode cJ2_getChar_3b067 41 = .ok (.iand, 1) := by decide +kernel
theorem dJ2_getChar_3b067_42 : decode cJ2_getChar_3b067 42 = .ok (.getstatic 59, 3) := by decide +kernel
theorem dJ2_getChar_3b067_45 : decode cJ2_getChar_3b067 45 = .ok (.ishl, 1) := by decide +kernel
theorem dJ2_getChar_3b067_46 : decode cJ2_getChar_3b067 46 = .ok (.aload_n 0, 1) := by decide +kernel
theorem dJ2_getChar_3b067_47 : decode cJ2_getChar_3b067 47 = .ok (.iload_n 1, 1) := by decide +kernel
theorem dJ2_getChar_3b067_48 : decode cJ2_getChar_3b067 48 = .ok (.baload, 1) := by decide +kernel
theorem dJ2_getChar_3b067_49 : decode cJ2_getChar_3b067 49 = .ok (.sipush 255, 3) := by decide +kernel
theorem dJ2_getChar_3b067_52 : decode cJ2_getChar_3b067 52 = .ok (.iand, 1) := by decide +kernel
theorem dJ2_getChar_3b067_53 : decode cJ2_getChar_3b067 53 = .ok (.getstatic 63, 3) := by decide +kernel
theorem dJ2_getChar_3b067_56 : decode cJ2_getChar_3b067 56 = .ok (.ishl, 1) := by decide +kernel
theorem dJ2_getChar_3b067_57 : decode cJ2_getChar_3b067 57 = .ok (.ior, 1) := by decide +kernel
theorem dJ2_getChar_3b067_58 : decode cJ2_getChar_3b067 58 = .ok (.i2c, 1) := by decide +kernel
theorem dJ2_getChar_3b067_59 : decode cJ2_getChar_3b067 59 = .ok (.ireturn, 1) := by decide +kernel
theorem dJ2_length_9d52b_0 : decode cJ2_length_9d52b 0 = .ok (.aload_n 0, 1) := by decide +kernel
theorem dJ2_length_9d52b_1 : decode cJ2_length_9d52b 1 = .ok (.arraylength, 1) := by decide +kernel
theorem dJ2_length_9d52b_2 : decode cJ2_length_9d52b 2 = .ok (.iconst 1, 1) := by decide +kernel
theorem dJ2_length_9d52b_3 : decode cJ2_length_9d52b 3 = .ok (.ishr, 1) := by decide +kernel
theorem dJ2_length_9d52b_4 : decode cJ2_length_9d52b 4 = .ok (.ireturn, 1) := by decide +kernel
theorem dJ2_indexOf_4cfef_0 : decode cJ2_indexOf_4cfef 0 = .ok (.iload_n 2, 1) := by decide +kernel
theorem dJ2_indexOf_4cfef_1 : decode cJ2_indexOf_4cfef 1 = .ok (.iconst 0, 1) := by decide +kernel
theorem dJ2_indexOf_4cfef_2 : decode cJ2_indexOf_4cfef 2 = .ok (.invokestatic 224, 3) := by decide +kernel
theorem dJ2_indexOf_4cfef_5 : decode cJ2_indexOf_4cfef 5 = .ok (.istore_n 2, 1) := by decide +kernel
theorem dJ2_indexOf_4cfef_6 : decode cJ2_indexOf_4cfef 6 = .ok (.iload_n 3, 1) := by decide +kernel
theorem dJ2_indexOf_4cfef_7 : decode cJ2_indexOf_4cfef 7 = .ok (.aload_n 0, 1) := by decide +kernel
theorem dJ2_indexOf_4cfef_8 : decode cJ2_indexOf_4cfef 8 = .ok (.arraylength, 1) := by decide +kernel
theorem dJ2_indexOf_4cfef_9 : decode cJ2_indexOf_4cfef 9 = .ok (.iconst 1, 1) := by decide +kernel
theorem dJ2_indexOf_4cfef_10 : decode cJ2_indexOf_4cfef 10 = .ok (.ishr, 1) := by decide +kernel
theorem dJ2_indexOf_4cfef_11 : decode cJ2_indexOf_4cfef 11 = .ok (.invokestatic 183, 3) := by decide +kernel
theorem dJ2_indexOf_4cfef_14 : decode cJ2_indexOf_4cfef 14 = .ok (.istore_n 3, 1) := by decide +kernel
theorem dJ2_indexOf_4cfef_15 : decode cJ2_indexOf_4cfef 15 = .ok (.iload_n 2, 1) := by decide +kernel
theorem dJ2_indexOf_4cfef_16 : decode cJ2_indexOf_4cfef 16 = .ok (.iload_n 3, 1) := by decide +kernel
theorem dJ2_indexOf_4cfef_17 : decode cJ2_indexOf_4cfef 17 = .ok (.if_icmp .lt 5, 3) := by decide +kernel
theorem dJ2_indexOf_4cfef_20 : decode cJ2_indexOf_4cfef 20 = .ok (.iconst (-1), 1) := by decide +kernel
theorem dJ2_indexOf_4cfef_21 : decode cJ2_indexOf_4cfef 21 = .ok (.ireturn, 1) := by decide +kernel
theorem dJ2_indexOf_4cfef_22 : decode cJ2_indexOf_4cfef 22 = .ok (.iload_n 1, 1) := by decide +kernel
theorem dJ2_indexOf_4cfef_23 : decode cJ2_indexOf_4cfef 23 = .ok (.ldc 227, 2) := by decide +kernel
theorem dJ2_indexOf_4cfef_25 : decode cJ2_indexOf_4cfef 25 = .ok (.if_icmp .ge 11, 3) := by decide +kernel
theorem dJ2_indexOf_4cfef_28 : decode cJ2_indexOf_4cfef 28 = .ok (.aload_n 0, 1) := by decide +kernel
theorem dJ2_indexOf_4cfef_29 : decode cJ2_indexOf_4cfef 29 = .ok (.iload_n 1, 1) := by decide +kernel
theorem dJ2_indexOf_4cfef_30 : decode cJ2_indexOf_4cfef 30 = .ok (.iload_n 2, 1) := by decide +kernel
theorem dJ2_indexOf_4cfef_31 : decode cJ2_indexOf_4cfef 31 = .ok (.iload_n 3, 1) := by decide +kernel
theorem dJ2_indexOf_4cfef_32 : decode cJ2_indexOf_4cfef 32 = .ok (.invokestatic 228, 3) := by decide +kernel
theorem dJ2_indexOf_4cfef_35 : decode cJ2_indexOf_4cfef 35 = .ok (.ireturn, 1) := by decide +kernel
theorem dJ2_indexOf_4cfef_36 : decode cJ2_indexOf_4cfef 36 = .ok (.aload_n 0, 1) := by decide +kernel
theorem dJ2_indexOf_4cfef_37 : decode cJ2_indexOf_4cfef 37 = .ok (.iload_n 1, 1) := by decide +kernel
theorem dJ2_indexOf_4cfef_38 : decode cJ2_indexOf_4cfef 38 = .ok (.iload_n 2, 1) := by decide +kernel
theorem dJ2_indexOf_4cfef_39 : decode cJ2_indexOf_4cfef 39 = .ok (.iload_n 3, 1) := by decide +kernel
theorem dJ2_indexOf_4cfef_40 : decode cJ2_indexOf_4cfef 40 = .ok (.invokestatic 232, 3) := by decide +kernel
theorem dJ2_indexOf_4cfef_43 : decode cJ2_indexOf_4cfef 43 = .ok (.ireturn, 1) := by decide +kernel
theorem dJ2_indexOfChar_4cfef_0 : decode cJ2_indexOfChar_4cfef 0 = .ok (.iload_n 2, 1) := by decide +kernel
theorem dJ2_indexOfChar_4cfef_1 : decode cJ2_indexOfChar_4cfef 1 = .ok (.iload_n 3, 1) := by decide +kernel
theorem dJ2_indexOfChar_4cfef_2 : decode cJ2_indexOfChar_4cfef 2 = .ok (.aload_n 0, 1) := by decide +kernel
theorem dJ2_indexOfChar_4cfef_3 : decode cJ2_indexOfChar_4cfef 3 = .ok (.invokestatic 96, 3) := by decide +kernel
theorem dJ2_indexOfChar_4cfef_6 : decode cJ2_indexOfChar_4cfef 6 = .ok (.aload_n 0, 1) := by decide +kernel
theorem dJ2_indexOfChar_4cfef_7 : decode cJ2_indexOfChar_4cfef 7 = .ok (.iload_n 1, 1) := by decide +kernel
theorem dJ2_indexOfChar_4cfef_8 : decode cJ2_indexOfChar_4cfef 8 = .ok (.iload_n 2, 1) := by decide +kernel
theorem dJ2_indexOfChar_4cfef_9 : decode cJ2_indexOfChar_4cfef 9 = .ok (.iload_n 3, 1) := by decide +kernel
theorem dJ2_indexOfChar_4cfef_10 : decode cJ2_indexOfChar_4cfef 10 = .ok (.invokestatic 244, 3) := by decide +kernel
theorem dJ2_indexOfChar_4cfef_13 : decode cJ2_indexOfChar_4cfef 13 = .ok (.ireturn, 1) := by decide +kernel
theorem dJ2_indexOfCharUnsafe_4cfef_0 : decode cJ2_indexOfCharUnsafe_4cfef 0 = .ok (.iload_n 2, 1) := by decide +kernel
theorem dJ2_indexOfCharUnsafe_4cfef_1 : decode cJ2_indexOfCharUnsafe_4cfef 1 = .ok (.istore 4, 2) := by decide +kernel
theorem dJ2_indexOfCharUnsafe_4cfef_3 : decode cJ2_indexOfCharUnsafe_4cfef 3 = .ok (.iload 4, 2) := by decide +kernel
theorem dJ2_indexOfCharUnsafe_4cfef_5 : decode cJ2_indexOfCharUnsafe_4cfef 5 = .ok (.iload_n 3, 1) := by decide +kernel
theorem dJ2_indexOfCharUnsafe_4cfef_6 : decode cJ2_indexOfCharUnsafe_4cfef 6 = .ok (.if_icmp .ge 22, 3) := by decide +kernel
theorem dJ2_indexOfCharUnsafe_4cfef_9 : decode cJ2_indexOfCharUnsafe_4cfef 9 = .ok (.aload_n 0, 1) := by decide +kernel
theorem dJ2_indexOfCharUnsafe_4cfef_10 : decode cJ2_indexOfCharUnsafe_4cfef 10 = .ok (.iload 4, 2) := by decide +kernel
theorem dJ2_indexOfCharUnsafe_4cfef_12 : decode cJ2_indexOfCharUnsafe_4cfef 12 = .ok (.invokestatic 71, 3) := by decide +kernel
theorem dJ2_indexOfCharUnsafe_4cfef_15 : decode cJ2_indexOfCharUnsafe_4cfef 15 = .ok (.iload_n 1, 1) := by decide +kernel
theorem dJ2_indexOfCharUnsafe_4cfef_16 : decode cJ2_indexOfCharUnsafe_4cfef 16 = .ok (.if_icmp .ne 6, 3) := by decide +kernel
theorem dJ2_indexOfCharUnsafe_4cfef_19 : decode cJ2_indexOfCharUnsafe_4cfef 19 = .ok (.iload 4, 2) := by decide +kernel
theorem dJ2_indexOfCharUnsafe_4cfef_21 : decode cJ2_indexOfCharUnsafe_4cfef 21 = .ok (.ireturn, 1) := by decide +kernel
theorem dJ2_indexOfCharUnsafe_4cfef_22 : decode cJ2_indexOfCharUnsafe_4cfef 22 = .ok (.iinc 4 1, 3) := by decide +kernel
theorem dJ2_indexOfCharUnsafe_4cfef_25 : decode cJ2_indexOfCharUnsafe_4cfef 25 = .ok (.goto (-22), 3) := by decide +kernel
theorem dJ2_indexOfCharUnsafe_4cfef_28 : decode cJ2_indexOfCharUnsafe_4cfef 28 = .ok (.iconst (-1), 1) := by decide +kernel
theorem dJ2_indexOfCharUnsafe_4cfef_29 : decode cJ2_indexOfCharUnsafe_4cfef 29 = .ok (.ireturn, 1) := by decide +kernel
theorem dJ2_indexOfSupplementary_4cfef_0 : decode cJ2_indexOfSupplementary_4cfef 0 = .ok (.iload_n 1, 1) := by decide +kernel
theorem dJ2_indexOfSupplementary_4cfef_1 : decode cJ2_indexOfSupplementary_4cfef 1 = .ok (.invokestatic 164, 3) := by decide +kernel
theorem dJ2_indexOfSupplementary_4cfef_4 : decode cJ2_indexOfSupplementary_4cfef 4 = .ok (.ifCond .eq 65, 3) := by decide +kernel
theorem dJ2_indexOfSupplementary_4cfef_7 : decode cJ2_indexOfSupplementary_4cfef 7 = .ok (.iload_n 1, 1) := by decide +kernel
theorem dJ2_indexOfSupplementary_4cfef_8 : decode cJ2_indexOfSupplementary_4cfef 8 = .ok (.invokestatic 157, 3) := by decide +kernel
theorem dJ2_indexOfSupplementary_4cfef_11 : decode cJ2_indexOfSupplementary_4cfef 11 = .ok (.istore 4, 2) := by decide +kernel
theorem dJ2_indexOfSupplementary_4cfef_13 : decode cJ2_indexOfSupplementary_4cfef 13 = .ok (.iload_n 1, 1) := by decide +kernel
theorem dJ2_indexOfSupplementary_4cfef_14 : decode cJ2_indexOfSupplementary_4cfef 14 = .ok (.invokestatic 161, 3) := by decide +kernel
theorem dJ2_indexOfSupplementary_4cfef_17 : decode cJ2_indexOfSupplementary_4cfef 17 = .ok (.istore 5, 2) := by decide +kernel
theorem dJ2_indexOfSupplementary_4cfef_19 : decode cJ2_indexOfSupplementary_4cfef 19 = .ok (.iload_n 2, 1) := by decide +kernel
theorem dJ2_indexOfSupplementary_4cfef_20 : decode cJ2_indexOfSupplementary_4cfef 20 = .ok (.iload_n 3, 1) := by decide +kernel
theorem dJ2_indexOfSupplementary_4cfef_21 : decode cJ2_indexOfSupplementary_4cfef 21 = .ok (.aload_n 0, 1) := by decide +kernel
theorem dJ2_indexOfSupplementary_4cfef_22 : decode cJ2_indexOfSupplementary_4cfef 22 = .ok (.invokestatic 96, 3) := by decide +kernel
theorem dJ2_indexOfSupplementary_4cfef_25 : decode cJ2_indexOfSupplementary_4cfef 25 = .ok (.iload_n 2, 1) := by decide +kernel
theorem dJ2_indexOfSupplementary_4cfef_26 : decode cJ2_indexOfSupplementary_4cfef 26 = .ok (.istore 6, 2) := by decide +kernel
theorem dJ2_indexOfSupplementary_4cfef_28 : decode cJ2_indexOfSupplementary_4cfef 28 = .ok (.iload 6, 2) := by decide +kernel
theorem dJ2_indexOfSupplementary_4cfef_30 : decode cJ2_indexOfSupplementary_4cfef 30 = .ok (.iload_n 3, 1) := by decide +kernel
theorem dJ2_indexOfSupplementary_4cfef_31 : decode cJ2_indexOfSupplementary_4cfef 31 = .ok (.iconst 1, 1) := by decide +kernel
theorem dJ2_indexOfSupplementary_4cfef_32 : decode cJ2_indexOfSupplementary_4cfef 32 = .ok (.isub, 1) := by decide +kernel
theorem dJ2_indexOfSupplementary_4cfef_33 : decode cJ2_indexOfSupplementary_4cfef 33 = .ok (.if_icmp .ge 36, 3) := by decide +kernel
theorem dJ2_indexOfSupplementary_4cfef_36 : decode cJ2_indexOfSupplementary_4cfef 36 = .ok (.aload_n 0, 1) := by decide +kernel
theorem dJ2_indexOfSupplementary_4cfef_37 : decode cJ2_indexOfSupplementary_4cfef 37 = .ok (.iload 6, 2) := by decide +kernel
theorem dJ2_indexOfSupplementary_4cfef_39 : decode cJ2_indexOfSupplementary_4cfef 39 = .ok (.invokestatic 71, 3) := by decide +kernel
theorem dJ2_indexOfSupplementary_4cfef_42 : decode cJ2_indexOfSupplementary_4cfef 42 = .ok (.iload 4, 2) := by decide +kernel
theorem dJ2_indexOfSupplementary_4cfef_44 : decode cJ2_indexOfSupplementary_4cfef 44 = .ok (.if_icmp .ne 19, 3) := by decide +kernel
theorem dJ2_indexOfSupplementary_4cfef_47 : decode cJ2_indexOfSupplementary_4cfef 47 = .ok (.aload_n 0, 1) := by decide +kernel
theorem dJ2_indexOfSupplementary_4cfef_48 : decode cJ2_indexOfSupplementary_4cfef 48 = .ok (.iload 6, 2) := by decide +kernel
theorem dJ2_indexOfSupplementary_4cfef_50 : decode cJ2_indexOfSupplementary_4cfef 50 = .ok (.iconst 1, 1) := by decide +kernel
theorem dJ2_indexOfSupplementary_4cfef_51 : decode cJ2_indexOfSupplementary_4cfef 51 = .ok (.iadd, 1) := by decide +kernel
theorem dJ2_indexOfSupplementary_4cfef_52 : decode cJ2_indexOfSupplementary_4cfef 52 = .ok (.invokestatic 71, 3) := by decide +kernel
theorem dJ2_indexOfSupplementary_4cfef_55 : decode cJ2_indexOfSupplementary_4cfef 55 = .ok (.iload 5, 2) := by decide +kernel
theorem dJ2_indexOfSupplementary_4cfef_57 : decode cJ2_indexOfSupplementary_4cfef 57 = .ok (.if_icmp .ne 6, 3) := by decide +kernel
theorem dJ2_indexOfSupplementary_4cfef_60 : decode cJ2_indexOfSupplementary_4cfef 60 = .ok (.iload 6, 2) := by decide +kernel
theorem dJ2_indexOfSupplementary_4cfef_62 : decode cJ2_indexOfSupplementary_4cfef 62 = .ok (.ireturn, 1) := by decide +kernel
theorem dJ2_indexOfSupplementary_4cfef_63 : decode cJ2_indexOfSupplementary_4cfef 63 = .ok (.iinc 6 1, 3) := by decide +kernel
theorem dJ2_indexOfSupplementary_4cfef_66 : decode cJ2_indexOfSupplementary_4cfef 66 = .ok (.goto (-38), 3) := by decide +kernel
theorem dJ2_indexOfSupplementary_4cfef_69 : decode cJ2_indexOfSupplementary_4cfef 69 = .ok (.iconst (-1), 1) := by decide +kernel
theorem dJ2_indexOfSupplementary_4cfef_70 : decode cJ2_indexOfSupplementary_4cfef 70 = .ok (.ireturn, 1) := by decide +kernel
theorem dJ2_checkBoundsBeginEnd_d044e_0 : decode cJ2_checkBoundsBeginEnd_d044e 0 = .ok (.iload_n 0, 1) := by decide +kernel
theorem dJ2_checkBoundsBeginEnd_d044e_1 : decode cJ2_checkBoundsBeginEnd_d044e 1 = .ok (.iload_n 1, 1) := by decide +kernel
theorem dJ2_checkBoundsBeginEnd_d044e_2 : decode cJ2_checkBoundsBeginEnd_d044e 2 = .ok (.aload_n 2, 1) := by decide +kernel
theorem dJ2_checkBoundsBeginEnd_d044e_3 : decode cJ2_checkBoundsBeginEnd_d044e 3 = .ok (.invokestatic 48, 3) := by decide +kernel
theorem dJ2_checkBoundsBeginEnd_d044e_6 : decode cJ2_checkBoundsBeginEnd_d044e 6 = .ok (.invokestatic 241, 3) := by decide +kernel
theorem dJ2_checkBoundsBeginEnd_d044e_9 : decode cJ2_checkBoundsBeginEnd_d044e 9 = .ok (.return_, 1) := by decide +kernel
theorem dJ3_checkFromToIndex_8c36e_0 : decode cJ3_checkFromToIndex_8c36e 0 = .ok (.iload_n 0, 1) := by decide +kernel
theorem dJ3_checkFromToIndex_8c36e_1 : decode cJ3_checkFromToIndex_8c36e 1 = .ok (.ifCond .lt 13, 3) := by decide +kernel
theorem dJ3_checkFromToIndex_8c36e_4 : decode cJ3_checkFromToIndex_8c36e 4 = .ok (.iload_n 0, 1) := by decide +kernel
theorem dJ3_checkFromToIndex_8c36e_5 : decode cJ3_checkFromToIndex_8c36e 5 = .ok (.iload_n 1, 1) := by decide +kernel
theorem dJ3_checkFromToIndex_8c36e_6 : decode cJ3_checkFromToIndex_8c36e 6 = .ok (.if_icmp .gt 8, 3) := by decide +kernel
theorem dJ3_checkFromToIndex_8c36e_9 : decode cJ3_checkFromToIndex_8c36e 9 = .ok (.iload_n 1, 1) := by decide +kernel
theorem dJ3_checkFromToIndex_8c36e_10 : decode cJ3_checkFromToIndex_8c36e 10 = .ok (.iload_n 2, 1) := by decide +kernel
theorem dJ3_checkFromToIndex_8c36e_11 : decode cJ3_checkFromToIndex_8c36e 11 = .ok (.if_icmp .le 11, 3) := by decide +kernel
theorem dJ3_checkFromToIndex_8c36e_14 : decode cJ3_checkFromToIndex_8c36e 14 = .ok (.aload_n 3, 1) := by decide +kernel
theorem dJ3_checkFromToIndex_8c36e_15 : decode cJ3_checkFromToIndex_8c36e 15 = .ok (.iload_n 0, 1) := by decide +kernel
theorem dJ3_checkFromToIndex_8c36e_16 : decode cJ3_checkFromToIndex_8c36e 16 = .ok (.iload_n 1, 1) := by decide +kernel
theorem dJ3_checkFromToIndex_8c36e_17 : decode cJ3_checkFromToIndex_8c36e 17 = .ok (.iload_n 2, 1) := by decide +kernel
theorem dJ3_checkFromToIndex_8c36e_18 : decode cJ3_checkFromToIndex_8c36e 18 = .ok (.invokestatic 99, 3) := by decide +kernel
theorem dJ3_checkFromToIndex_8c36e_21 : decode cJ3_checkFromToIndex_8c36e 21 = .ok (.athrow, 1) := by decide +kernel
theorem dJ3_checkFromToIndex_8c36e_22 : decode cJ3_checkFromToIndex_8c36e 22 = .ok (.iload_n 0, 1) := by decide +kernel
theorem dJ3_checkFromToIndex_8c36e_23 : decode cJ3_checkFromToIndex_8c36e 23 = .ok (.ireturn, 1) := by decide +kernel
theorem dL_law_0 : decode cL_law 0 = .ok (.new 7, 3) := by decide +kernel
theorem dL_law_3 : decode cL_law 3 = .ok (.dup, 1) := by decide +kernel
theorem dL_law_4 : decode cL_law 4 = .ok (.invokespecial 9, 3) := by decide +kernel
theorem dL_law_7 : decode cL_law 7 = .ok (.astore_n 1, 1) := by decide +kernel
theorem dL_law_8 : decode cL_law 8 = .ok (.new 10, 3) := by decide +kernel
theorem dL_law_11 : decode cL_law 11 = .ok (.dup, 1) := by decide +kernel
theorem dL_law_12 : decode cL_law 12 = .ok (.invokespecial 12, 3) := by decide +kernel
theorem dL_law_15 : decode cL_law 15 = .ok (.astore_n 2, 1) := by decide +kernel
theorem dL_law_16 : decode cL_law 16 = .ok (.iconst 0, 1) := by decide +kernel
theorem dL_law_17 : decode cL_law 17 = .ok (.istore_n 3, 1) := by decide +kernel
theorem dL_law_18 : decode cL_law 18 = .ok (.iload_n 3, 1) := by decide +kernel
theorem dL_law_19 : decode cL_law 19 = .ok (.aload_n 0, 1) := by decide +kernel
theorem dL_law_20 : decode cL_law 20 = .ok (.arraylength, 1) := by decide +kernel
theorem dL_law_21 : decode cL_law 21 = .ok (.bipush 6, 2) := by decide +kernel
theorem dL_law_23 : decode cL_law 23 = .ok (.isub, 1) := by decide +kernel
theorem dL_law_24 : decode cL_law 24 = .ok (.if_icmp .gt 1329, 3) := by decide +kernel
theorem dL_law_27 : decode cL_law 27 = .ok (.aload_n 0, 1) := by decide +kernel
theorem dL_law_28 : decode cL_law 28 = .ok (.iload_n 3, 1) := by decide +kernel
theorem dL_law_29 : decode cL_law 29 = .ok (.iaload, 1) := by decide +kernel
theorem dL_law_30 : decode cL_law 30 = .ok (.bipush 63, 2) := by decide +kernel
theorem dL_law_32 : decode cL_law 32 = .ok (.iand, 1) := by decide +kernel
theorem dL_law_33 : decode cL_law 33 = .ok (.tableswitch 1314 0 36 #[163, 206, 239, 272, 305, 338, 371, 404, 437, 500, 523, 546, 599, 622, 645, 668, 691, 734, 747, 770, 823, 846, 879, 922, 945, 988, 1011, 1054, 1097, 1160, 1183, 1206, 1219, 1232, 1255, 1268, 1291], 163) := by decide +kernel
theorem dL_law_196 : decode cL_law 196 = .ok (.aload_n 1, 1) := by decide +kernel
theorem dL_law_197 : decode cL_law 197 = .ok (.aload_n 0, 1) := by decide +kernel
theorem dL_law_198 : decode cL_law 198 = .ok (.iload_n 3, 1) := by decide +kernel
theorem dL_law_199 : decode cL_law 199 = .ok (.iconst 1, 1) := by decide +kernel
theorem dL_law_200 : decode cL_law 200 = .ok (.iadd, 1) := by decide +kernel
theorem dL_law_201 : decode cL_law 201 = .ok (.iaload, 1) := by decide +kernel
theorem dL_law_202 : decode cL_law 202 = .ok (.aload_n 0, 1) := by decide +kernel
theorem dL_law_203 : decode cL_law 203 = .ok (.iload_n 3, 1) := by decide +kernel
theorem dL_law_204 : decode cL_law 204 = .ok (.iconst 2, 1) := by decide +kernel
theorem dL_law_205 : decode cL_law 205 = .ok (.iadd, 1) := by decide +kernel
theorem dL_law_206 : decode cL_law 206 = .ok (.iaload, 1) := by decide +kernel
theorem dL_law_207 : decode cL_law 207 = .ok (.aload_n 0, 1) := by decide +kernel
theorem dL_law_208 : decode cL_law 208 = .ok (.iload_n 3, 1) := by decide +kernel
theorem dL_law_209 : decode cL_law 209 = .ok (.iconst 3, 1) := by decide +kernel
theorem dL_law_210 : decode cL_law 210 = .ok (.iadd, 1) := by decide +kernel
theorem dL_law_211 : decode cL_law 211 = .ok (.iaload, 1) := by decide +kernel
theorem dL_law_212 : decode cL_law 212 = .ok (.invokevirtual 13, 3) := by decide +kernel
theorem dL_law_215 : decode cL_law 215 = .ok (.aload_n 2, 1) := by decide +kernel
theorem dL_law_216 : decode cL_law 216 = .ok (.aload_n 0, 1) := by decide +kernel
theorem dL_law_217 : decode cL_law 217 = .ok (.iload_n 3, 1) := by decide +kernel
theorem dL_law_218 : decode cL_law 218 = .ok (.iconst 1, 1) := by decide +kernel
theorem dL_law_219 : decode cL_law 219 = .ok (.iadd, 1) := by decide +kernel
theorem dL_law_220 : decode cL_law 220 = .ok (.iaload, 1) := by decide +kernel
theorem dL_law_221 : decode cL_law 221 = .ok (.aload_n 0, 1) := by decide +kernel
theorem dL_law_222 : decode cL_law 222 = .ok (.iload_n 3, 1) := by decide +kernel
theorem dL_law_223 : decode cL_law 223 = .ok (.iconst 2, 1) := by decide +kernel
theorem dL_law_224 : decode cL_law 224 = .ok (.iadd, 1) := by decide +kernel
theorem dL_law_225 : decode cL_law 225 = .ok (.iaload, 1) := by decide +kernel
theorem dL_law_226 : decode cL_law 226 = .ok (.aload_n 0, 1) := by decide +kernel
theorem dL_law_227 : decode cL_law 227 = .ok (.iload_n 3, 1) := by decide +kernel
theorem dL_law_228 : decode cL_law 228 = .ok (.iconst 3, 1) := by decide +kernel
theorem dL_law_229 : decode cL_law 229 = .ok (.iadd, 1) := by decide +kernel
theorem dL_law_230 : decode cL_law 230 = .ok (.iaload, 1) := by decide +kernel
theorem dL_law_231 : decode cL_law 231 = .ok (.invokevirtual 17, 3) := by decide +kernel
theorem dL_law_234 : decode cL_law 234 = .ok (.if_icmp .eq 1113, 3) := by decide +kernel
theorem dL_law_237 : decode cL_law 237 = .ok (.iconst 0, 1) := by decide +kernel
theorem dL_law_238 : decode cL_law 238 = .ok (.ireturn, 1) := by decide +kernel
theorem dL_law_239 : decode cL_law 239 = .ok (.aload_n 1, 1) := by decide +kernel
theorem dL_law_240 : decode cL_law 240 = .ok (.aload_n 0, 1) := by decide +kernel
theorem dL_law_241 : decode cL_law 241 = .ok (.iload_n 3, 1) := by decide +kernel
theorem dL_law_242 : decode cL_law 242 = .ok (.iconst 1, 1) := by decide +kernel
theorem dL_law_243 : decode cL_law 243 = .ok (.iadd, 1) := by decide +kernel
theorem dL_law_244 : decode cL_law 244 = .ok (.iaload, 1) := by decide +kernel
theorem dL_law_245 : decode cL_law 245 = .ok (.aload_n 0, 1) := by decide +kernel
theorem dL_law_246 : decode cL_law 246 = .ok (.iload_n 3, 1) := by decide +kernel
theorem dL_law_247 : decode cL_law 247 = .ok (.iconst 2, 1) := by decide +kernel
theorem dL_law_248 : decode cL_law 248 = .ok (.iadd, 1) := by decide +kernel
theorem dL_law_249 : decode cL_law 249 = .ok (.iaload, 1) := by decide +kernel
theorem dL_law_250 : decode cL_law 250 = .ok (.invokevirtual 18, 3) := by decide +kernel
theorem dL_law_253 : decode cL_law 253 = .ok (.aload_n 2, 1) := by decide +kernel
theorem dL_law_254 : decode cL_law 254 = .ok (.aload_n 0, 1) := by decide +kernel
theorem dL_law_255 : decode cL_law 255 = .ok (.iload_n 3, 1) := by decide +kernel
theorem dL_law_256 : decode cL_law 256 = .ok (.iconst 1, 1) := by decide +kernel
theorem dL_law_257 : decode cL_law 257 = .ok (.iadd, 1) := by decide +kernel
theorem dL_law_258 : decode cL_law 258 = .ok (.iaload, 1) := by decide +kernel
theorem dL_law_259 : decode cL_law 259 = .ok (.aload_n 0, 1) := by decide +kernel
theorem dL_law_260 : decode cL_law 260 = .ok (.iload_n 3, 1) := by decide +kernel
theorem dL_law_261 : decode cL_law 261 = .ok (.iconst 2, 1) := by decide +kernel
theorem dL_law_262 : decode cL_law 262 = .ok (.iadd, 1) := by decide +kernel
theorem dL_law_263 : decode cL_law 263 = .ok (.iaload, 1) := by decide +kernel
theorem dL_law_264 : decode cL_law 264 = .ok (.invokevirtual 22, 3) := by decide +kernel
theorem dL_law_267 : decode cL_law 267 = .ok (.if_icmp .eq 1080, 3) := by decide +kernel
theorem dL_law_270 : decode cL_law 270 = .ok (.iconst 0, 1) := by decide +kernel
theorem dL_law_271 : decode cL_law 271 = .ok (.ireturn, 1) := by decide +kernel
theorem dL_law_272 : decode cL_law 272 = .ok (.aload_n 1, 1) := by decide +kernel
theorem dL_law_273 : decode cL_law 273 = .ok (.aload_n 0, 1) := by decide +kernel
theorem dL_law_274 : decode cL_law 274 = .ok (.iload_n 3, 1) := by decide +kernel
theorem dL_law_275 : decode cL_law 275 = .ok (.iconst 1, 1) := by decide +kernel
theorem dL_law_276 : decode cL_law 276 = .ok (.iadd, 1) := by decide +kernel
theorem dL_law_277 : decode cL_law 277 = .ok (.iaload, 1) := by decide +kernel
theorem dL_law_278 : decode cL_law 278 = .ok (.aload_n 0, 1) := by decide +kernel
theorem dL_law_279 : decode cL_law 279 = .ok (.iload_n 3, 1) := by decide +kernel
theorem dL_law_280 : decode cL_law 280 = .ok (.iconst 2, 1) := by decide +kernel
theorem dL_law_281 : decode cL_law 281 = .ok (.iadd, 1) := by decide +kernel
theorem dL_law_282 : decode cL_law 282 = .ok (.iaload, 1) := by decide +kernel
theorem dL_law_283 : decode cL_law 283 = .ok (.invokevirtual 23, 3) := by decide +kernel
theorem dL_law_286 : decode cL_law 286 = .ok (.aload_n 2, 1) := by decide +kernel
theorem dL_law_287 : decode cL_law 287 = .ok (.aload_n 0, 1) := by decide +kernel
theorem dL_law_288 : decode cL_law 288 = .ok (.iload_n 3, 1) := by decide +kernel
theorem dL_law_289 : decode cL_law 289 = .ok (.iconst 1, 1) := by decide +kernel
theorem dL_law_290 : decode cL_law 290 = .ok (.iadd, 1) := by decide +kernel
theorem dL_law_291 : decode cL_law 291 = .ok (.iaload, 1) := by decide +kernel
theorem dL_law_292 : decode cL_law 292 = .ok (.aload_n 0, 1) := by decide +kernel
theorem dL_law_293 : decode cL_law 293 = .ok (.iload_n 3, 1) := by decide +kernel
theorem dL_law_294 : decode cL_law 294 = .ok (.iconst 2, 1) := by decide +kernel
theorem dL_law_295 : decode cL_law 295 = .ok (.iadd, 1) := by decide +kernel
theorem dL_law_296 : decode cL_law 296 = .ok (.iaload, 1) := by decide +kernel
theorem dL_law_297 : decode cL_law 297 = .ok (.invokevirtual 26, 3) := by decide +kernel
theorem dL_law_300 : decode cL_law 300 = .ok (.if_icmp .eq 1047, 3) := by decide +kernel
theorem dL_law_303 : decode cL_law 303 = .ok (.iconst 0, 1) := by decide +kernel
theorem dL_law_304 : decode cL_law 304 = .ok (.ireturn, 1) := by decide +kernel
theorem dL_law_305 : decode cL_law 305 = .ok (.aload_n 1, 1) := by decide +kernel
theorem dL_law_306 : decode cL_law 306 = .ok (.aload_n 0, 1) := by decide +kernel
theorem dL_law_307 : decode cL_law 307 = .ok (.iload_n 3, 1) := by decide +kernel
theorem dL_law_308 : decode cL_law 308 = .ok (.iconst 1, 1) := by decide +kernel
theorem dL_law_309 : decode cL_law 309 = .ok (.iadd, 1) := by decide +kernel
theorem dL_law_310 : decode cL_law 310 = .ok (.iaload, 1) := by decide +kernel
theorem dL_law_311 : decode cL_law 311 = .ok (.aload_n 0, 1) := by decide +kernel
theorem dL_law_312 : decode cL_law 312 = .ok (.iload_n 3, 1) := by decide +kernel
theorem dL_law_313 : decode cL_law 313 = .ok (.iconst 2, 1) := by decide +kernel
theorem dL_law_314 : decode cL_law 314 = .ok (.iadd, 1) := by decide +kernel
theorem dL_law_315 : decode cL_law 315 = .ok (.iaload, 1) := by decide +kernel
theorem dL_law_316 : decode cL_law 316 = .ok (.invokevirtual 27, 3) := by decide +kernel
theorem dL_law_319 : decode cL_law 319 = .ok (.aload_n 2, 1) := by decide +kernel
theorem dL_law_320 : decode cL_law 320 = .ok (.aload_n 0, 1) := by decide +kernel
theorem dL_law_321 : decode cL_law 321 = .ok (.iload_n 3, 1) := by decide +kernel
theorem dL_law_322 : decode cL_law 322 = .ok (.iconst 1, 1) := by decide +kernel
theorem dL_law_323 : decode cL_law 323 = .ok (.iadd, 1) := by decide +kernel
theorem dL_law_324 : decode cL_law 324 = .ok (.iaload, 1) := by decide +kernel
theorem dL_law_325 : decode cL_law 325 = .ok (.aload_n 0, 1) := by decide +kernel
theorem dL_law_326 : decode cL_law 326 = .ok (.iload_n 3, 1) := by decide +kernel
theorem dL_law_327 : decode cL_law 327 = .ok (.iconst 2, 1) := by decide +kernel
theorem dL_law_328 : decode cL_law 328 = .ok (.iadd, 1) := by decide +kernel
theorem dL_law_329 : decode cL_law 329 = .ok (.iaload, 1) := by decide +kernel
theorem dL_law_330 : decode cL_law 330 = .ok (.invokevirtual 30, 3) := by decide +kernel
theorem dL_law_333 : decode cL_law 333 = .ok (.if_icmp .eq 1014, 3) := by decide +kernel
theorem dL_law_336 : decode cL_law 336 = .ok (.iconst 0, 1) := by decide +kernel
theorem dL_law_337 : decode cL_law 337 = .ok (.ireturn, 1) := by decide +kernel
theorem dL_law_338 : decode cL_law 338 = .ok (.aload_n 1, 1) := by decide +kernel
theorem dL_law_339 : decode cL_law 339 = .ok (.aload_n 0, 1) := by decide +kernel
theorem dL_law_340 : decode cL_law 340 = .ok (.iload_n 3, 1) := by decide +kernel
theorem dL_law_341 : decode cL_law 341 = .ok (.iconst 1, 1) := by decide +kernel
theorem dL_law_342 : decode cL_law 342 = .ok (.iadd, 1) := by decide +kernel
theorem dL_law_343 : decode cL_law 343 = .ok (.iaload, 1) := by decide +kernel
theorem dL_law_344 : decode cL_law 344 = .ok (.aload_n 0, 1) := by decide +kernel
theorem dL_law_345 : decode cL_law 345 = .ok (.iload_n 3, 1) := by decide +kernel
theorem dL_law_346 : decode cL_law 346 = .ok (.iconst 2, 1) := by decide +kernel
theorem dL_law_347 : decode cL_law 347 = .ok (.iadd, 1) := by decide +kernel
theorem dL_law_348 : decode cL_law 348 = .ok (.iaload, 1) := by decide +kernel
theorem dL_law_349 : decode cL_law 349 = .ok (.invokevirtual 31, 3) := by decide +kernel
theorem dL_law_352 : decode cL_law 352 = .ok (.aload_n 2, 1) := by decide +kernel
theorem dL_law_353 : decode cL_law 353 = .ok (.aload_n 0, 1) := by decide +kernel
theorem dL_law_354 : decode cL_law 354 = .ok (.iload_n 3, 1) := by decide +kernel
theorem dL_law_355 : decode cL_law 355 = .ok (.iconst 1, 1) := by decide +kernel
theorem dL_law_356 : decode cL_law 356 = .ok (.iadd, 1) := by decide +kernel
theorem dL_law_357 : decode cL_law 357 = .ok (.iaload, 1) := by decide +kernel
theorem dL_law_358 : decode cL_law 358 = .ok (.aload_n 0, 1) := by decide +kernel
theorem dL_law_359 : decode cL_law 359 = .ok (.iload_n 3, 1) := by decide +kernel
theorem dL_law_360 : decode cL_law 360 = .ok (.iconst 2, 1) := by decide +kernel
theorem dL_law_361 : decode cL_law 361 = .ok (.iadd, 1) := by decide +kernel
theorem dL_law_362 : decode cL_law 362 = .ok (.iaload, 1) := by decide +kernel
theorem dL_law_363 : decode cL_law 363 = .ok (.invokevirtual 34, 3) := by decide +kernel
theorem dL_law_366 : decode cL_law 366 = .ok (.if_icmp .eq 981, 3) := by decide +kernel
theorem dL_law_369 : decode cL_law 369 = .ok (.iconst 0, 1) := by decide +kernel
theorem dL_law_370 : decode cL_law 370 = .ok (.ireturn, 1) := by decide +kernel
theorem dL_law_371 : decode cL_law 371 = .ok (.aload_n 1, 1) := by decide +kernel
theorem dL_law_372 : decode cL_law 372 = .ok (.aload_n 0, 1) := by decide +kernel
theorem dL_law_373 : decode cL_law 373 = .ok (.iload_n 3, 1) := by decide +kernel
theorem dL_law_374 : decode cL_law 374 = .ok (.iconst 1, 1) := by decide +kernel
theorem dL_law_375 : decode cL_law 375 = .ok (.iadd, 1) := by decide +kernel
theorem dL_law_376 : decode cL_law 376 = .ok (.iaload, 1) := by decide +kernel
theorem dL_law_377 : decode cL_law 377 = .ok (.aload_n 0, 1) := by decide +kernel
theorem dL_law_378 : decode cL_law 378 = .ok (.iload_n 3, 1) := by decide +kernel
theorem dL_law_379 : decode cL_law 379 = .ok (.iconst 2, 1) := by decide +kernel
theorem dL_law_380 : decode cL_law 380 = .ok (.iadd, 1) := by decide +kernel
theorem dL_law_381 : decode cL_law 381 = .ok (.iaload, 1) := by decide +kernel
theorem dL_law_382 : decode cL_law 382 = .ok (.invokevirtual 35, 3) := by decide +kernel
theorem dL_law_385 : decode cL_law 385 = .ok (.aload_n 2, 1) := by decide +kernel
theorem dL_law_386 : decode cL_law 386 = .ok (.aload_n 0, 1) := by decide +kernel
theorem dL_law_387 : decode cL_law 387 = .ok (.iload_n 3, 1) := by decide +kernel
theorem dL_law_388 : decode cL_law 388 = .ok (.iconst 1, 1) := by decide +kernel
theorem dL_law_389 : decode cL_law 389 = .ok (.iadd, 1) := by decide +kernel
theorem dL_law_390 : decode cL_law 390 = .ok (.iaload, 1) := by decide +kernel
theorem dL_law_391 : decode cL_law 391 = .ok (.aload_n 0, 1) := by decide +kernel
theorem dL_law_392 : decode cL_law 392 = .ok (.iload_n 3, 1) := by decide +kernel
theorem dL_law_393 : decode cL_law 393 = .ok (.iconst 2, 1) := by decide +kernel
theorem dL_law_394 : decode cL_law 394 = .ok (.iadd, 1) := by decide +kernel
theorem dL_law_395 : decode cL_law 395 = .ok (.iaload, 1) := by decide +kernel
theorem dL_law_396 : decode cL_law 396 = .ok (.invokevirtual 38, 3) := by decide +kernel
theorem dL_law_399 : decode cL_law 399 = .ok (.if_icmp .eq 948, 3) := by decide +kernel
theorem dL_law_402 : decode cL_law 402 = .ok (.iconst 0, 1) := by decide +kernel
theorem dL_law_403 : decode cL_law 403 = .ok (.ireturn, 1) := by decide +kernel
theorem dL_law_404 : decode cL_law 404 = .ok (.aload_n 1, 1) := by decide +kernel
theorem dL_law_405 : decode cL_law 405 = .ok (.aload_n 0, 1) := by decide +kernel
theorem dL_law_406 : decode cL_law 406 = .ok (.iload_n 3, 1) := by decide +kernel
theorem dL_law_407 : decode cL_law 407 = .ok (.iconst 1, 1) := by decide +kernel
theorem dL_law_408 : decode cL_law 408 = .ok (.iadd, 1) := by decide +kernel
theorem dL_law_409 : decode cL_law 409 = .ok (.iaload, 1) := by decide +kernel
theorem dL_law_410 : decode cL_law 410 = .ok (.aload_n 0, 1) := by decide +kernel
theorem dL_law_411 : decode cL_law 411 = .ok (.iload_n 3, 1) := by decide +kernel
theorem dL_law_412 : decode cL_law 412 = .ok (.iconst 2, 1) := by decide +kernel
theorem dL_law_413 : decode cL_law 413 = .ok (.iadd, 1) := by decide +kernel
theorem dL_law_414 : decode cL_law 414 = .ok (.iaload, 1) := by decide +kernel
theorem dL_law_415 : decode cL_law 415 = .ok (.invokevirtual 39, 3) := by decide +kernel
theorem dL_law_418 : decode cL_law 418 = .ok (.aload_n 2, 1) := by decide +kernel
theorem dL_law_419 : decode cL_law 419 = .ok (.aload_n 0, 1) := by decide +kernel
theorem dL_law_420 : decode cL_law 420 = .ok (.iload_n 3, 1) := by decide +kernel
theorem dL_law_421 : decode cL_law 421 = .ok (.iconst 1, 1) := by decide +kernel
theorem dL_law_422 : decode cL_law 422 = .ok (.iadd, 1) := by decide +kernel
theorem dL_law_423 : decode cL_law 423 = .ok (.iaload, 1) := by decide +kernel
theorem dL_law_424 : decode cL_law 424 = .ok (.aload_n 0, 1) := by decide +kernel
theorem dL_law_425 : decode cL_law 425 = .ok (.iload_n 3, 1) := by decide +kernel
theorem dL_law_426 : decode cL_law 426 = .ok (.iconst 2, 1) := by decide +kernel
theorem dL_law_427 : decode cL_law 427 = .ok (.iadd, 1) := by decide +kernel
theorem dL_law_428 : decode cL_law 428 = .ok (.iaload, 1) := by decide +kernel
theorem dL_law_429 : decode cL_law 429 = .ok (.invokevirtual 42, 3) := by decide +kernel
theorem dL_law_432 : decode cL_law 432 = .ok (.if_icmp .eq 915, 3) := by decide +kernel
theorem dL_law_435 : decode cL_law 435 = .ok (.iconst 0, 1) := by decide +kernel
theorem dL_law_436 : decode cL_law 436 = .ok (.ireturn, 1) := by decide +kernel
theorem dL_law_437 : decode cL_law 437 = .ok (.aload_n 1, 1) := by decide +kernel
theorem dL_law_438 : decode cL_law 438 = .ok (.aload_n 0, 1) := by decide +kernel
theorem dL_law_439 : decode cL_law 439 = .ok (.iload_n 3, 1) := by decide +kernel
theorem dL_law_440 : decode cL_law 440 = .ok (.iconst 1, 1) := by decide +kernel
theorem dL_law_441 : decode cL_law 441 = .ok (.iadd, 1) := by decide +kernel
theorem dL_law_442 : decode cL_law 442 = .ok (.iaload, 1) := by decide +kernel
theorem dL_law_443 : decode cL_law 443 = .ok (.aload_n 0, 1) := by decide +kernel
theorem dL_law_444 : decode cL_law 444 = .ok (.iload_n 3, 1) := by decide +kernel
theorem dL_law_445 : decode cL_law 445 = .ok (.iconst 2, 1) := by decide +kernel
theorem dL_law_446 : decode cL_law 446 = .ok (.iadd, 1) := by decide +kernel
theorem dL_law_447 : decode cL_law 447 = .ok (.iaload, 1) := by decide +kernel
theorem dL_law_448 : decode cL_law 448 = .ok (.invokevirtual 43, 3) := by decide +kernel
theorem dL_law_451 : decode cL_law 451 = .ok (.aload_n 2, 1) := by decide +kernel
theorem dL_law_452 : decode cL_law 452 = .ok (.aload_n 0, 1) := by decide +kernel
theorem dL_law_453 : decode cL_law 453 = .ok (.iload_n 3, 1) := by decide +kernel
theorem dL_law_454 : decode cL_law 454 = .ok (.iconst 1, 1) := by decide +kernel
theorem dL_law_455 : decode cL_law 455 = .ok (.iadd, 1) := by decide +kernel
theorem dL_law_456 : decode cL_law 456 = .ok (.iaload, 1) := by decide +kernel
theorem dL_law_457 : decode cL_law 457 = .ok (.aload_n 0, 1) := by decide +kernel
theorem dL_law_458 : decode cL_law 458 = .ok (.iload_n 3, 1) := by decide +kernel
theorem dL_law_459 : decode cL_law 459 = .ok (.iconst 2, 1) := by decide +kernel
theorem dL_law_460 : decode cL_law 460 = .ok (.iadd, 1) := by decide +kernel
theorem dL_law_461 : decode cL_law 461 = .ok (.iaload, 1) := by decide +kernel
theorem dL_law_462 : decode cL_law 462 = .ok (.invokevirtual 46, 3) := by decide +kernel
theorem dL_law_465 : decode cL_law 465 = .ok (.if_icmp .eq 882, 3) := by decide +kernel
theorem dL_law_468 : decode cL_law 468 = .ok (.iconst 0, 1) := by decide +kernel
theorem dL_law_469 : decode cL_law 469 = .ok (.ireturn, 1) := by decide +kernel
theorem dL_law_470 : decode cL_law 470 = .ok (.aload_n 1, 1) := by decide +kernel
theorem dL_law_471 : decode cL_law 471 = .ok (.aload_n 0, 1) := by decide +kernel
theorem dL_law_472 : decode cL_law 472 = .ok (.iload_n 3, 1) := by decide +kernel
theorem dL_law_473 : decode cL_law 473 = .ok (.iconst 1, 1) := by decide +kernel
theorem dL_law_474 : decode cL_law 474 = .ok (.iadd, 1) := by decide +kernel
theorem dL_law_475 : decode cL_law 475 = .ok (.iaload, 1) := by decide +kernel
theorem dL_law_476 : decode cL_law 476 = .ok (.i2l, 1) := by decide +kernel
theorem dL_law_477 : decode cL_law 477 = .ok (.bipush 32, 2) := by decide +kernel
theorem dL_law_479 : decode cL_law 479 = .ok (.lshl, 1) := by decide +kernel
theorem dL_law_480 : decode cL_law 480 = .ok (.aload_n 0, 1) := by decide +kernel
theorem dL_law_481 : decode cL_law 481 = .ok (.iload_n 3, 1) := by decide +kernel
theorem dL_law_482 : decode cL_law 482 = .ok (.iconst 2, 1) := by decide +kernel
theorem dL_law_483 : decode cL_law 483 = .ok (.iadd, 1) := by decide +kernel
theorem dL_law_484 : decode cL_law 484 = .ok (.iaload, 1) := by decide +kernel
theorem dL_law_485 : decode cL_law 485 = .ok (.i2l, 1) := by decide +kernel
theorem dL_law_486 : decode cL_law 486 = .ok (.ldc2_w 47, 3) := by decide +kernel
theorem dL_law_489 : decode cL_law 489 = .ok (.land, 1) := by decide +kernel
theorem dL_law_490 : decode cL_law 490 = .ok (.lor, 1) := by decide +kernel
theorem dL_law_491 : decode cL_law 491 = .ok (.aload_n 0, 1) := by decide +kernel
theorem dL_law_492 : decode cL_law 492 = .ok (.iload_n 3, 1) := by decide +kernel
theorem dL_law_493 : decode cL_law 493 = .ok (.iconst 3, 1) := by decide +kernel
theorem dL_law_494 : decode cL_law 494 = .ok (.iadd, 1) := by decide +kernel
theorem dL_law_495 : decode cL_law 495 = .ok (.iaload, 1) := by decide +kernel
theorem dL_law_496 : decode cL_law 496 = .ok (.invokevirtual 49, 3) := by decide +kernel
theorem dL_law_499 : decode cL_law 499 = .ok (.aload_n 2, 1) := by decide +kernel
theorem dL_law_500 : decode cL_law 500 = .ok (.aload_n 0, 1) := by decide +kernel
theorem dL_law_501 : decode cL_law 501 = .ok (.iload_n 3, 1) := by decide +kernel
theorem dL_law_502 : decode cL_law 502 = .ok (.iconst 1, 1) := by decide +kernel
theorem dL_law_503 : decode cL_law 503 = .ok (.iadd, 1) := by decide +kernel
theorem dL_law_504 : decode cL_law 504 = .ok (.iaload, 1) := by decide +kernel
theorem dL_law_505 : decode cL_law 505 = .ok (.i2l, 1) := by decide +kernel
theorem dL_law_506 : decode cL_law 506 = .ok (.bipush 32, 2) := by decide +kernel
theorem dL_law_508 : decode cL_law 508 = .ok (.lshl, 1) := by decide +kernel
theorem dL_law_509 : decode cL_law 509 = .ok (.aload_n 0, 1) := by decide +kernel
theorem dL_law_510 : decode cL_law 510 = .ok (.iload_n 3, 1) := by decide +kernel
theorem dL_law_511 : decode cL_law 511 = .ok (.iconst 2, 1) := by decide +kernel
theorem dL_law_512 : decode cL_law 512 = .ok (.iadd, 1) := by decide +kernel
theorem dL_law_513 : decode cL_law 513 = .ok (.iaload, 1) := by decide +kernel
theorem dL_law_514 : decode cL_law 514 = .ok (.i2l, 1) := by decide +kernel
theorem dL_law_515 : decode cL_law 515 = .ok (.ldc2_w 47, 3) := by decide +kernel
theorem dL_law_518 : decode cL_law 518 = .ok (.land, 1) := by decide +kernel
theorem dL_law_519 : decode cL_law 519 = .ok (.lor, 1) := by decide +kernel
theorem dL_law_520 : decode cL_law 520 = .ok (.aload_n 0, 1) := by decide +kernel
theorem dL_law_521 : decode cL_law 521 = .ok (.iload_n 3, 1) := by decide +kernel
theorem dL_law_522 : decode cL_law 522 = .ok (.iconst 3, 1) := by decide +kernel
theorem dL_law_523 : decode cL_law 523 = .ok (.iadd, 1) := by decide +kernel
theorem dL_law_524 : decode cL_law 524 = .ok (.iaload, 1) := by decide +kernel
theorem dL_law_525 : decode cL_law 525 = .ok (.invokevirtual 53, 3) := by decide +kernel
theorem dL_law_528 : decode cL_law 528 = .ok (.if_icmp .eq 819, 3) := by decide +kernel
theorem dL_law_531 : decode cL_law 531 = .ok (.iconst 0, 1) := by decide +kernel
theorem dL_law_532 : decode cL_law 532 = .ok (.ireturn, 1) := by decide +kernel
theorem dL_law_533 : decode cL_law 533 = .ok (.aload_n 1, 1) := by decide +kernel
theorem dL_law_534 : decode cL_law 534 = .ok (.aload_n 0, 1) := by decide +kernel
theorem dL_law_535 : decode cL_law 535 = .ok (.iload_n 3, 1) := by decide +kernel
theorem dL_law_536 : decode cL_law 536 = .ok (.iconst 1, 1) := by decide +kernel
theorem dL_law_537 : decode cL_law 537 = .ok (.iadd, 1) := by decide +kernel
theorem dL_law_538 : decode cL_law 538 = .ok (.iaload, 1) := by decide +kernel
theorem dL_law_539 : decode cL_law 539 = .ok (.invokevirtual 54, 3) := by decide +kernel
theorem dL_law_542 : decode cL_law 542 = .ok (.aload_n 2, 1) := by decide +kernel
theorem dL_law_543 : decode cL_law 543 = .ok (.aload_n 0, 1) := by decide +kernel
theorem dL_law_544 : decode cL_law 544 = .ok (.iload_n 3, 1) := by decide +kernel
theorem dL_law_545 : decode cL_law 545 = .ok (.iconst 1, 1) := by decide +kernel
theorem dL_law_546 : decode cL_law 546 = .ok (.iadd, 1) := by decide +kernel
theorem dL_law_547 : decode cL_law 547 = .ok (.iaload, 1) := by decide +kernel
theorem dL_law_548 : decode cL_law 548 = .ok (.invokevirtual 58, 3) := by decide +kernel
theorem dL_law_551 : decode cL_law 551 = .ok (.if_icmp .eq 796, 3) := by decide +kernel
theorem dL_law_554 : decode cL_law 554 = .ok (.iconst 0, 1) := by decide +kernel
theorem dL_law_555 : decode cL_law 555 = .ok (.ireturn, 1) := by decide +kernel
theorem dL_law_556 : decode cL_law 556 = .ok (.aload_n 1, 1) := by decide +kernel
theorem dL_law_557 : decode cL_law 557 = .ok (.aload_n 0, 1) := by decide +kernel
theorem dL_law_558 : decode cL_law 558 = .ok (.iload_n 3, 1) := by decide +kernel
theorem dL_law_559 : decode cL_law 559 = .ok (.iconst 1, 1) := by decide +kernel
theorem dL_law_560 : decode cL_law 560 = .ok (.iadd, 1) := by decide +kernel
theorem dL_law_561 : decode cL_law 561 = .ok (.iaload, 1) := by decide +kernel
theorem dL_law_562 : decode cL_law 562 = .ok (.invokevirtual 59, 3) := by decide +kernel
theorem dL_law_565 : decode cL_law 565 = .ok (.aload_n 2, 1) := by decide +kernel
theorem dL_law_566 : decode cL_law 566 = .ok (.aload_n 0, 1) := by decide +kernel
theorem dL_law_567 : decode cL_law 567 = .ok (.iload_n 3, 1) := by decide +kernel
theorem dL_law_568 : decode cL_law 568 = .ok (.iconst 1, 1) := by decide +kernel
theorem dL_law_569 : decode cL_law 569 = .ok (.iadd, 1) := by decide +kernel
theorem dL_law_570 : decode cL_law 570 = .ok (.iaload, 1) := by decide +kernel
theorem dL_law_571 : decode cL_law 571 = .ok (.invokevirtual 62, 3) := by decide +kernel
theorem dL_law_574 : decode cL_law 574 = .ok (.if_icmp .eq 773, 3) := by decide +kernel
theorem dL_law_577 : decode cL_law 577 = .ok (.iconst 0, 1) := by decide +kernel
theorem dL_law_578 : decode cL_law 578 = .ok (.ireturn, 1) := by decide +kernel
theorem dL_law_579 : decode cL_law 579 = .ok (.aload_n 1, 1) := by decide +kernel
theorem dL_law_580 : decode cL_law 580 = .ok (.aload_n 0, 1) := by decide +kernel
theorem dL_law_581 : decode cL_law 581 = .ok (.iload_n 3, 1) := by decide +kernel
theorem dL_law_582 : decode cL_law 582 = .ok (.iconst 1, 1) := by decide +kernel
theorem dL_law_583 : decode cL_law 583 = .ok (.iadd, 1) := by decide +kernel
theorem dL_law_584 : decode cL_law 584 = .ok (.iaload, 1) := by decide +kernel
theorem dL_law_585 : decode cL_law 585 = .ok (.aload_n 0, 1) := by decide +kernel
theorem dL_law_586 : decode cL_law 586 = .ok (.iload_n 3, 1) := by decide +kernel
theorem dL_law_587 : decode cL_law 587 = .ok (.iconst 2, 1) := by decide +kernel
theorem dL_law_588 : decode cL_law 588 = .ok (.iadd, 1) := by decide +kernel
theorem dL_law_589 : decode cL_law 589 = .ok (.iaload, 1) := by decide +kernel
theorem dL_law_590 : decode cL_law 590 = .ok (.aload_n 0, 1) := by decide +kernel
theorem dL_law_591 : decode cL_law 591 = .ok (.iload_n 3, 1) := by decide +kernel
theorem dL_law_592 : decode cL_law 592 = .ok (.iconst 3, 1) := by decide +kernel
theorem dL_law_593 : decode cL_law 593 = .ok (.iadd, 1) := by decide +kernel
theorem dL_law_594 : decode cL_law 594 = .ok (.iaload, 1) := by decide +kernel
theorem dL_law_595 : decode cL_law 595 = .ok (.aload_n 0, 1) := by decide +kernel
theorem dL_law_596 : decode cL_law 596 = .ok (.iload_n 3, 1) := by decide +kernel
theorem dL_law_597 : decode cL_law 597 = .ok (.iconst 4, 1) := by decide +kernel
theorem dL_law_598 : decode cL_law 598 = .ok (.iadd, 1) := by decide +kernel
theorem dL_law_599 : decode cL_law 599 = .ok (.iaload, 1) := by decide +kernel
theorem dL_law_600 : decode cL_law 600 = .ok (.invokevirtual 63, 3) := by decide +kernel
theorem dL_law_603 : decode cL_law 603 = .ok (.aload_n 2, 1) := by decide +kernel
theorem dL_law_604 : decode cL_law 604 = .ok (.aload_n 0, 1) := by decide +kernel
theorem dL_law_605 : decode cL_law 605 = .ok (.iload_n 3, 1) := by decide +kernel
theorem dL_law_606 : decode cL_law 606 = .ok (.iconst 1, 1) := by decide +kernel
theorem dL_law_607 : decode cL_law 607 = .ok (.iadd, 1) := by decide +kernel
theorem dL_law_608 : decode cL_law 608 = .ok (.iaload, 1) := by decide +kernel
theorem dL_law_609 : decode cL_law 609 = .ok (.aload_n 0, 1) := by decide +kernel
theorem dL_law_610 : decode cL_law 610 = .ok (.iload_n 3, 1) := by decide +kernel
theorem dL_law_611 : decode cL_law 611 = .ok (.iconst 2, 1) := by decide +kernel
theorem dL_law_612 : decode cL_law 612 = .ok (.iadd, 1) := by decide +kernel
theorem dL_law_613 : decode cL_law 613 = .ok (.iaload, 1) := by decide +kernel
theorem dL_law_614 : decode cL_law 614 = .ok (.aload_n 0, 1) := by decide +kernel
theorem dL_law_615 : decode cL_law 615 = .ok (.iload_n 3, 1) := by decide +kernel
theorem dL_law_616 : decode cL_law 616 = .ok (.iconst 3, 1) := by decide +kernel
theorem dL_law_617 : decode cL_law 617 = .ok (.iadd, 1) := by decide +kernel
theorem dL_law_618 : decode cL_law 618 = .ok (.iaload, 1) := by decide +kernel
theorem dL_law_619 : decode cL_law 619 = .ok (.aload_n 0, 1) := by decide +kernel
theorem dL_law_620 : decode cL_law 620 = .ok (.iload_n 3, 1) := by decide +kernel
theorem dL_law_621 : decode cL_law 621 = .ok (.iconst 4, 1) := by decide +kernel
theorem dL_law_622 : decode cL_law 622 = .ok (.iadd, 1) := by decide +kernel
theorem dL_law_623 : decode cL_law 623 = .ok (.iaload, 1) := by decide +kernel
theorem dL_law_624 : decode cL_law 624 = .ok (.invokevirtual 67, 3) := by decide +kernel
theorem dL_law_627 : decode cL_law 627 = .ok (.if_icmp .eq 720, 3) := by decide +kernel
theorem dL_law_630 : decode cL_law 630 = .ok (.iconst 0, 1) := by decide +kernel
theorem dL_law_631 : decode cL_law 631 = .ok (.ireturn, 1) := by decide +kernel
theorem dL_law_632 : decode cL_law 632 = .ok (.aload_n 1, 1) := by decide +kernel
theorem dL_law_633 : decode cL_law 633 = .ok (.aload_n 0, 1) := by decide +kernel
theorem dL_law_634 : decode cL_law 634 = .ok (.iload_n 3, 1) := by decide +kernel
theorem dL_law_635 : decode cL_law 635 = .ok (.iconst 1, 1) := by decide +kernel
theorem dL_law_636 : decode cL_law 636 = .ok (.iadd, 1) := by decide +kernel
theorem dL_law_637 : decode cL_law 637 = .ok (.iaload, 1) := by decide +kernel
theorem dL_law_638 : decode cL_law 638 = .ok (.invokevirtual 68, 3) := by decide +kernel
theorem dL_law_641 : decode cL_law 641 = .ok (.aload_n 2, 1) := by decide +kernel
theorem dL_law_642 : decode cL_law 642 = .ok (.aload_n 0, 1) := by decide +kernel
theorem dL_law_643 : decode cL_law 643 = .ok (.iload_n 3, 1) := by decide +kernel
theorem dL_law_644 : decode cL_law 644 = .ok (.iconst 1, 1) := by decide +kernel
theorem dL_law_645 : decode cL_law 645 = .ok (.iadd, 1) := by decide +kernel
theorem dL_law_646 : decode cL_law 646 = .ok (.iaload, 1) := by decide +kernel
theorem dL_law_647 : decode cL_law 647 = .ok (.invokevirtual 71, 3) := by decide +kernel
theorem dL_law_650 : decode cL_law 650 = .ok (.if_icmp .eq 697, 3) := by decide +kernel
theorem dL_law_653 : decode cL_law 653 = .ok (.iconst 0, 1) := by decide +kernel
theorem dL_law_654 : decode cL_law 654 = .ok (.ireturn, 1) := by decide +kernel
theorem dL_law_655 : decode cL_law 655 = .ok (.aload_n 1, 1) := by decide +kernel
theorem dL_law_656 : decode cL_law 656 = .ok (.aload_n 0, 1) := by decide +kernel
theorem dL_law_657 : decode cL_law 657 = .ok (.iload_n 3, 1) := by decide +kernel
theorem dL_law_658 : decode cL_law 658 = .ok (.iconst 1, 1) := by decide +kernel
theorem dL_law_659 : decode cL_law 659 = .ok (.iadd, 1) := by decide +kernel
theorem dL_law_660 : decode cL_law 660 = .ok (.iaload, 1) := by decide +kernel
theorem dL_law_661 : decode cL_law 661 = .ok (.invokevirtual 72, 3) := by decide +kernel
theorem dL_law_664 : decode cL_law 664 = .ok (.aload_n 2, 1) := by decide +kernel
theorem dL_law_665 : decode cL_law 665 = .ok (.aload_n 0, 1) := by decide +kernel
theorem dL_law_666 : decode cL_law 666 = .ok (.iload_n 3, 1) := by decide +kernel
theorem dL_law_667 : decode cL_law 667 = .ok (.iconst 1, 1) := by decide +kernel
theorem dL_law_668 : decode cL_law 668 = .ok (.iadd, 1) := by decide +kernel
theorem dL_law_669 : decode cL_law 669 = .ok (.iaload, 1) := by decide +kernel
theorem dL_law_670 : decode cL_law 670 = .ok (.invokevirtual 75, 3) := by decide +kernel
theorem dL_law_673 : decode cL_law 673 = .ok (.if_icmp .eq 674, 3) := by decide +kernel
theorem dL_law_676 : decode cL_law 676 = .ok (.iconst 0, 1) := by decide +kernel
theorem dL_law_677 : decode cL_law 677 = .ok (.ireturn, 1) := by decide +kernel
theorem dL_law_678 : decode cL_law 678 = .ok (.aload_n 1, 1) := by decide +kernel
theorem dL_law_679 : decode cL_law 679 = .ok (.aload_n 0, 1) := by decide +kernel
theorem dL_law_680 : decode cL_law 680 = .ok (.iload_n 3, 1) := by decide +kernel
theorem dL_law_681 : decode cL_law 681 = .ok (.iconst 1, 1) := by decide +kernel
theorem dL_law_682 : decode cL_law 682 = .ok (.iadd, 1) := by decide +kernel
theorem dL_law_683 : decode cL_law 683 = .ok (.iaload, 1) := by decide +kernel
theorem dL_law_684 : decode cL_law 684 = .ok (.invokevirtual 76, 3) := by decide +kernel
theorem dL_law_687 : decode cL_law 687 = .ok (.aload_n 2, 1) := by decide +kernel
theorem dL_law_688 : decode cL_law 688 = .ok (.aload_n 0, 1) := by decide +kernel
theorem dL_law_689 : decode cL_law 689 = .ok (.iload_n 3, 1) := by decide +kernel
theorem dL_law_690 : decode cL_law 690 = .ok (.iconst 1, 1) := by decide +kernel
theorem dL_law_691 : decode cL_law 691 = .ok (.iadd, 1) := by decide +kernel
theorem dL_law_692 : decode cL_law 692 = .ok (.iaload, 1) := by decide +kernel
theorem dL_law_693 : decode cL_law 693 = .ok (.invokevirtual 79, 3) := by decide +kernel
theorem dL_law_696 : decode cL_law 696 = .ok (.if_icmp .eq 651, 3) := by decide +kernel
theorem dL_law_699 : decode cL_law 699 = .ok (.iconst 0, 1) := by decide +kernel
theorem dL_law_700 : decode cL_law 700 = .ok (.ireturn, 1) := by decide +kernel
theorem dL_law_701 : decode cL_law 701 = .ok (.aload_n 1, 1) := by decide +kernel
theorem dL_law_702 : decode cL_law 702 = .ok (.aload_n 0, 1) := by decide +kernel
theorem dL_law_703 : decode cL_law 703 = .ok (.iload_n 3, 1) := by decide +kernel
theorem dL_law_704 : decode cL_law 704 = .ok (.iconst 1, 1) := by decide +kernel
theorem dL_law_705 : decode cL_law 705 = .ok (.iadd, 1) := by decide +kernel
theorem dL_law_706 : decode cL_law 706 = .ok (.iaload, 1) := by decide +kernel
theorem dL_law_707 : decode cL_law 707 = .ok (.invokevirtual 80, 3) := by decide +kernel
theorem dL_law_710 : decode cL_law 710 = .ok (.aload_n 2, 1) := by decide +kernel
theorem dL_law_711 : decode cL_law 711 = .ok (.aload_n 0, 1) := by decide +kernel
theorem dL_law_712 : decode cL_law 712 = .ok (.iload_n 3, 1) := by decide +kernel
theorem dL_law_713 : decode cL_law 713 = .ok (.iconst 1, 1) := by decide +kernel
theorem dL_law_714 : decode cL_law 714 = .ok (.iadd, 1) := by decide +kernel
theorem dL_law_715 : decode cL_law 715 = .ok (.iaload, 1) := by decide +kernel
theorem dL_law_716 : decode cL_law 716 = .ok (.invokevirtual 83, 3) := by decide +kernel
theorem dL_law_719 : decode cL_law 719 = .ok (.if_icmp .eq 628, 3) := by decide +kernel
theorem dL_law_722 : decode cL_law 722 = .ok (.iconst 0, 1) := by decide +kernel
theorem dL_law_723 : decode cL_law 723 = .ok (.ireturn, 1) := by decide +kernel
theorem dL_law_724 : decode cL_law 724 = .ok (.aload_n 1, 1) := by decide +kernel
theorem dL_law_725 : decode cL_law 725 = .ok (.aload_n 0, 1) := by decide +kernel
theorem dL_law_726 : decode cL_law 726 = .ok (.iload_n 3, 1) := by decide +kernel
theorem dL_law_727 : decode cL_law 727 = .ok (.iconst 1, 1) := by decide +kernel
theorem dL_law_728 : decode cL_law 728 = .ok (.iadd, 1) := by decide +kernel
theorem dL_law_729 : decode cL_law 729 = .ok (.iaload, 1) := by decide +kernel
theorem dL_law_730 : decode cL_law 730 = .ok (.aload_n 0, 1) := by decide +kernel
theorem dL_law_731 : decode cL_law 731 = .ok (.iload_n 3, 1) := by decide +kernel
theorem dL_law_732 : decode cL_law 732 = .ok (.iconst 2, 1) := by decide +kernel
theorem dL_law_733 : decode cL_law 733 = .ok (.iadd, 1) := by decide +kernel
theorem dL_law_734 : decode cL_law 734 = .ok (.iaload, 1) := by decide +kernel
theorem dL_law_735 : decode cL_law 735 = .ok (.aload_n 0, 1) := by decide +kernel
theorem dL_law_736 : decode cL_law 736 = .ok (.iload_n 3, 1) := by decide +kernel
theorem dL_law_737 : decode cL_law 737 = .ok (.iconst 3, 1) := by decide +kernel
theorem dL_law_738 : decode cL_law 738 = .ok (.iadd, 1) := by decide +kernel
theorem dL_law_739 : decode cL_law 739 = .ok (.iaload, 1) := by decide +kernel
theorem dL_law_740 : decode cL_law 740 = .ok (.invokevirtual 84, 3) := by decide +kernel
theorem dL_law_743 : decode cL_law 743 = .ok (.aload_n 2, 1) := by decide +kernel
theorem dL_law_744 : decode cL_law 744 = .ok (.aload_n 0, 1) := by decide +kernel
theorem dL_law_745 : decode cL_law 745 = .ok (.iload_n 3, 1) := by decide +kernel
theorem dL_law_746 : decode cL_law 746 = .ok (.iconst 1, 1) := by decide +kernel
theorem dL_law_747 : decode cL_law 747 = .ok (.iadd, 1) := by decide +kernel
theorem dL_law_748 : decode cL_law 748 = .ok (.iaload, 1) := by decide +kernel
theorem dL_law_749 : decode cL_law 749 = .ok (.aload_n 0, 1) := by decide +kernel
theorem dL_law_750 : decode cL_law 750 = .ok (.iload_n 3, 1) := by decide +kernel
theorem dL_law_751 : decode cL_law 751 = .ok (.iconst 2, 1) := by decide +kernel
theorem dL_law_752 : decode cL_law 752 = .ok (.iadd, 1) := by decide +kernel
theorem dL_law_753 : decode cL_law 753 = .ok (.iaload, 1) := by decide +kernel
theorem dL_law_754 : decode cL_law 754 = .ok (.aload_n 0, 1) := by decide +kernel
theorem dL_law_755 : decode cL_law 755 = .ok (.iload_n 3, 1) := by decide +kernel
theorem dL_law_756 : decode cL_law 756 = .ok (.iconst 3, 1) := by decide +kernel
theorem dL_law_757 : decode cL_law 757 = .ok (.iadd, 1) := by decide +kernel
theorem dL_law_758 : decode cL_law 758 = .ok (.iaload, 1) := by decide +kernel
theorem dL_law_759 : decode cL_law 759 = .ok (.invokevirtual 87, 3) := by decide +kernel
theorem dL_law_762 : decode cL_law 762 = .ok (.if_icmp .eq 585, 3) := by decide +kernel
theorem dL_law_765 : decode cL_law 765 = .ok (.iconst 0, 1) := by decide +kernel
theorem dL_law_766 : decode cL_law 766 = .ok (.ireturn, 1) := by decide +kernel
theorem dL_law_767 : decode cL_law 767 = .ok (.aload_n 1, 1) := by decide +kernel
theorem dL_law_768 : decode cL_law 768 = .ok (.invokevirtual 88, 3) := by decide +kernel
theorem dL_law_771 : decode cL_law 771 = .ok (.aload_n 2, 1) := by decide +kernel
theorem dL_law_772 : decode cL_law 772 = .ok (.invokevirtual 92, 3) := by decide +kernel
theorem dL_law_775 : decode cL_law 775 = .ok (.if_icmp .eq 572, 3) := by decide +kernel
theorem dL_law_778 : decode cL_law 778 = .ok (.iconst 0, 1) := by decide +kernel
theorem dL_law_779 : decode cL_law 779 = .ok (.ireturn, 1) := by decide +kernel
theorem dL_law_780 : decode cL_law 780 = .ok (.aload_n 1, 1) := by decide +kernel
theorem dL_law_781 : decode cL_law 781 = .ok (.aload_n 0, 1) := by decide +kernel
theorem dL_law_782 : decode cL_law 782 = .ok (.iload_n 3, 1) := by decide +kernel
theorem dL_law_783 : decode cL_law 783 = .ok (.iconst 1, 1) := by decide +kernel
theorem dL_law_784 : decode cL_law 784 = .ok (.iadd, 1) := by decide +kernel
theorem dL_law_785 : decode cL_law 785 = .ok (.iaload, 1) := by decide +kernel
theorem dL_law_786 : decode cL_law 786 = .ok (.invokevirtual 93, 3) := by decide +kernel
theorem dL_law_789 : decode cL_law 789 = .ok (.aload_n 2, 1) := by decide +kernel
theorem dL_law_790 : decode cL_law 790 = .ok (.aload_n 0, 1) := by decide +kernel
theorem dL_law_791 : decode cL_law 791 = .ok (.iload_n 3, 1) := by decide +kernel
theorem dL_law_792 : decode cL_law 792 = .ok (.iconst 1, 1) := by decide +kernel
theorem dL_law_793 : decode cL_law 793 = .ok (.iadd, 1) := by decide +kernel
theorem dL_law_794 : decode cL_law 794 = .ok (.iaload, 1) := by decide +kernel
theorem dL_law_795 : decode cL_law 795 = .ok (.invokevirtual 96, 3) := by decide +kernel
theorem dL_law_798 : decode cL_law 798 = .ok (.if_icmp .eq 549, 3) := by decide +kernel
theorem dL_law_801 : decode cL_law 801 = .ok (.iconst 0, 1) := by decide +kernel
theorem dL_law_802 : decode cL_law 802 = .ok (.ireturn, 1) := by decide +kernel
theorem dL_law_803 : decode cL_law 803 = .ok (.aload_n 1, 1) := by decide +kernel
theorem dL_law_804 : decode cL_law 804 = .ok (.aload_n 0, 1) := by decide +kernel
theorem dL_law_805 : decode cL_law 805 = .ok (.iload_n 3, 1) := by decide +kernel
theorem dL_law_806 : decode cL_law 806 = .ok (.iconst 1, 1) := by decide +kernel
theorem dL_law_807 : decode cL_law 807 = .ok (.iadd, 1) := by decide +kernel
theorem dL_law_808 : decode cL_law 808 = .ok (.iaload, 1) := by decide +kernel
theorem dL_law_809 : decode cL_law 809 = .ok (.aload_n 0, 1) := by decide +kernel
theorem dL_law_810 : decode cL_law 810 = .ok (.iload_n 3, 1) := by decide +kernel
theorem dL_law_811 : decode cL_law 811 = .ok (.iconst 2, 1) := by decide +kernel
theorem dL_law_812 : decode cL_law 812 = .ok (.iadd, 1) := by decide +kernel
theorem dL_law_813 : decode cL_law 813 = .ok (.iaload, 1) := by decide +kernel
theorem dL_law_814 : decode cL_law 814 = .ok (.aload_n 0, 1) := by decide +kernel
theorem dL_law_815 : decode cL_law 815 = .ok (.iload_n 3, 1) := by decide +kernel
theorem dL_law_816 : decode cL_law 816 = .ok (.iconst 3, 1) := by decide +kernel
theorem dL_law_817 : decode cL_law 817 = .ok (.iadd, 1) := by decide +kernel
theorem dL_law_818 : decode cL_law 818 = .ok (.iaload, 1) := by decide +kernel
theorem dL_law_819 : decode cL_law 819 = .ok (.aload_n 0, 1) := by decide +kernel
theorem dL_law_820 : decode cL_law 820 = .ok (.iload_n 3, 1) := by decide +kernel
theorem dL_law_821 : decode cL_law 821 = .ok (.iconst 4, 1) := by decide +kernel
theorem dL_law_822 : decode cL_law 822 = .ok (.iadd, 1) := by decide +kernel
theorem dL_law_823 : decode cL_law 823 = .ok (.iaload, 1) := by decide +kernel
theorem dL_law_824 : decode cL_law 824 = .ok (.invokevirtual 97, 3) := by decide +kernel
theorem dL_law_827 : decode cL_law 827 = .ok (.aload_n 2, 1) := by decide +kernel
theorem dL_law_828 : decode cL_law 828 = .ok (.aload_n 0, 1) := by decide +kernel
theorem dL_law_829 : decode cL_law 829 = .ok (.iload_n 3, 1) := by decide +kernel
theorem dL_law_830 : decode cL_law 830 = .ok (.iconst 1, 1) := by decide +kernel
theorem dL_law_831 : decode cL_law 831 = .ok (.iadd, 1) := by decide +kernel
theorem dL_law_832 : decode cL_law 832 = .ok (.iaload, 1) := by decide +kernel
theorem dL_law_833 : decode cL_law 833 = .ok (.aload_n 0, 1) := by decide +kernel
theorem dL_law_834 : decode cL_law 834 = .ok (.iload_n 3, 1) := by decide +kernel
theorem dL_law_835 : decode cL_law 835 = .ok (.iconst 2, 1) := by decide +kernel
theorem dL_law_836 : decode cL_law 836 = .ok (.iadd, 1) := by decide +kernel
theorem dL_law_837 : decode cL_law 837 = .ok (.iaload, 1) := by decide +kernel
theorem dL_law_838 : decode cL_law 838 = .ok (.aload_n 0, 1) := by decide +kernel
theorem dL_law_839 : decode cL_law 839 = .ok (.iload_n 3, 1) := by decide +kernel
theorem dL_law_840 : decode cL_law 840 = .ok (.iconst 3, 1) := by decide +kernel
theorem dL_law_841 : decode cL_law 841 = .ok (.iadd, 1) := by decide +kernel
theorem dL_law_842 : decode cL_law 842 = .ok (.iaload, 1) := by decide +kernel
theorem dL_law_843 : decode cL_law 843 = .ok (.aload_n 0, 1) := by decide +kernel
theorem dL_law_844 : decode cL_law 844 = .ok (.iload_n 3, 1) := by decide +kernel
theorem dL_law_845 : decode cL_law 845 = .ok (.iconst 4, 1) := by decide +kernel
theorem dL_law_846 : decode cL_law 846 = .ok (.iadd, 1) := by decide +kernel
theorem dL_law_847 : decode cL_law 847 = .ok (.iaload, 1) := by decide +kernel
theorem dL_law_848 : decode cL_law 848 = .ok (.invokevirtual 100, 3) := by decide +kernel
theorem dL_law_851 : decode cL_law 851 = .ok (.if_icmp .eq 496, 3) := by decide +kernel
theorem dL_law_854 : decode cL_law 854 = .ok (.iconst 0, 1) := by decide +kernel
theorem dL_law_855 : decode cL_law 855 = .ok (.ireturn, 1) := by decide +kernel
theorem dL_law_856 : decode cL_law 856 = .ok (.aload_n 1, 1) := by decide +kernel
theorem dL_law_857 : decode cL_law 857 = .ok (.aload_n 0, 1) := by decide +kernel
theorem dL_law_858 : decode cL_law 858 = .ok (.iload_n 3, 1) := by decide +kernel
theorem dL_law_859 : decode cL_law 859 = .ok (.iconst 1, 1) := by decide +kernel
theorem dL_law_860 : decode cL_law 860 = .ok (.iadd, 1) := by decide +kernel
theorem dL_law_861 : decode cL_law 861 = .ok (.iaload, 1) := by decide +kernel
theorem dL_law_862 : decode cL_law 862 = .ok (.invokevirtual 101, 3) := by decide +kernel
theorem dL_law_865 : decode cL_law 865 = .ok (.aload_n 2, 1) := by decide +kernel
theorem dL_law_866 : decode cL_law 866 = .ok (.aload_n 0, 1) := by decide +kernel
theorem dL_law_867 : decode cL_law 867 = .ok (.iload_n 3, 1) := by decide +kernel
theorem dL_law_868 : decode cL_law 868 = .ok (.iconst 1, 1) := by decide +kernel
theorem dL_law_869 : decode cL_law 869 = .ok (.iadd, 1) := by decide +kernel
theorem dL_law_870 : decode cL_law 870 = .ok (.iaload, 1) := by decide +kernel
theorem dL_law_871 : decode cL_law 871 = .ok (.invokevirtual 104, 3) := by decide +kernel
theorem dL_law_874 : decode cL_law 874 = .ok (.if_icmp .eq 473, 3) := by decide +kernel
theorem dL_law_877 : decode cL_law 877 = .ok (.iconst 0, 1) := by decide +kernel
theorem dL_law_878 : decode cL_law 878 = .ok (.ireturn, 1) := by decide +kernel
theorem dL_law_879 : decode cL_law 879 = .ok (.aload_n 1, 1) := by decide +kernel
theorem dL_law_880 : decode cL_law 880 = .ok (.aload_n 0, 1) := by decide +kernel
theorem dL_law_881 : decode cL_law 881 = .ok (.iload_n 3, 1) := by decide +kernel
theorem dL_law_882 : decode cL_law 882 = .ok (.iconst 1, 1) := by decide +kernel
theorem dL_law_883 : decode cL_law 883 = .ok (.iadd, 1) := by decide +kernel
theorem dL_law_884 : decode cL_law 884 = .ok (.iaload, 1) := by decide +kernel
theorem dL_law_885 : decode cL_law 885 = .ok (.aload_n 0, 1) := by decide +kernel
theorem dL_law_886 : decode cL_law 886 = .ok (.iload_n 3, 1) := by decide +kernel
theorem dL_law_887 : decode cL_law 887 = .ok (.iconst 2, 1) := by decide +kernel
theorem dL_law_888 : decode cL_law 888 = .ok (.iadd, 1) := by decide +kernel
theorem dL_law_889 : decode cL_law 889 = .ok (.iaload, 1) := by decide +kernel
theorem dL_law_890 : decode cL_law 890 = .ok (.invokevirtual 105, 3) := by decide +kernel
theorem dL_law_893 : decode cL_law 893 = .ok (.aload_n 2, 1) := by decide +kernel
theorem dL_law_894 : decode cL_law 894 = .ok (.aload_n 0, 1) := by decide +kernel
theorem dL_law_895 : decode cL_law 895 = .ok (.iload_n 3, 1) := by decide +kernel
theorem dL_law_896 : decode cL_law 896 = .ok (.iconst 1, 1) := by decide +kernel
theorem dL_law_897 : decode cL_law 897 = .ok (.iadd, 1) := by decide +kernel
theorem dL_law_898 : decode cL_law 898 = .ok (.iaload, 1) := by decide +kernel
theorem dL_law_899 : decode cL_law 899 = .ok (.aload_n 0, 1) := by decide +kernel
theorem dL_law_900 : decode cL_law 900 = .ok (.iload_n 3, 1) := by decide +kernel
theorem dL_law_901 : decode cL_law 901 = .ok (.iconst 2, 1) := by decide +kernel
theorem dL_law_902 : decode cL_law 902 = .ok (.iadd, 1) := by decide +kernel
theorem dL_law_903 : decode cL_law 903 = .ok (.iaload, 1) := by decide +kernel
theorem dL_law_904 : decode cL_law 904 = .ok (.invokevirtual 108, 3) := by decide +kernel
theorem dL_law_907 : decode cL_law 907 = .ok (.if_icmp .eq 440, 3) := by decide +kernel
theorem dL_law_910 : decode cL_law 910 = .ok (.iconst 0, 1) := by decide +kernel
theorem dL_law_911 : decode cL_law 911 = .ok (.ireturn, 1) := by decide +kernel
theorem dL_law_912 : decode cL_law 912 = .ok (.aload_n 1, 1) := by decide +kernel
theorem dL_law_913 : decode cL_law 913 = .ok (.aload_n 0, 1) := by decide +kernel
theorem dL_law_914 : decode cL_law 914 = .ok (.iload_n 3, 1) := by decide +kernel
theorem dL_law_915 : decode cL_law 915 = .ok (.iconst 1, 1) := by decide +kernel
theorem dL_law_916 : decode cL_law 916 = .ok (.iadd, 1) := by decide +kernel
theorem dL_law_917 : decode cL_law 917 = .ok (.iaload, 1) := by decide +kernel
theorem dL_law_918 : decode cL_law 918 = .ok (.aload_n 0, 1) := by decide +kernel
theorem dL_law_919 : decode cL_law 919 = .ok (.iload_n 3, 1) := by decide +kernel
theorem dL_law_920 : decode cL_law 920 = .ok (.iconst 2, 1) := by decide +kernel
theorem dL_law_921 : decode cL_law 921 = .ok (.iadd, 1) := by decide +kernel
theorem dL_law_922 : decode cL_law 922 = .ok (.iaload, 1) := by decide +kernel
theorem dL_law_923 : decode cL_law 923 = .ok (.aload_n 0, 1) := by decide +kernel
theorem dL_law_924 : decode cL_law 924 = .ok (.iload_n 3, 1) := by decide +kernel
theorem dL_law_925 : decode cL_law 925 = .ok (.iconst 3, 1) := by decide +kernel
theorem dL_law_926 : decode cL_law 926 = .ok (.iadd, 1) := by decide +kernel
theorem dL_law_927 : decode cL_law 927 = .ok (.iaload, 1) := by decide +kernel
theorem dL_law_928 : decode cL_law 928 = .ok (.invokevirtual 109, 3) := by decide +kernel
theorem dL_law_931 : decode cL_law 931 = .ok (.aload_n 2, 1) := by decide +kernel
theorem dL_law_932 : decode cL_law 932 = .ok (.aload_n 0, 1) := by decide +kernel
theorem dL_law_933 : decode cL_law 933 = .ok (.iload_n 3, 1) := by decide +kernel
theorem dL_law_934 : decode cL_law 934 = .ok (.iconst 1, 1) := by decide +kernel
theorem dL_law_935 : decode cL_law 935 = .ok (.iadd, 1) := by decide +kernel
theorem dL_law_936 : decode cL_law 936 = .ok (.iaload, 1) := by decide +kernel
theorem dL_law_937 : decode cL_law 937 = .ok (.aload_n 0, 1) := by decide +kernel
theorem dL_law_938 : decode cL_law 938 = .ok (.iload_n 3, 1) := by decide +kernel
theorem dL_law_939 : decode cL_law 939 = .ok (.iconst 2, 1) := by decide +kernel
theorem dL_law_940 : decode cL_law 940 = .ok (.iadd, 1) := by decide +kernel
theorem dL_law_941 : decode cL_law 941 = .ok (.iaload, 1) := by decide +kernel
theorem dL_law_942 : decode cL_law 942 = .ok (.aload_n 0, 1) := by decide +kernel
theorem dL_law_943 : decode cL_law 943 = .ok (.iload_n 3, 1) := by decide +kernel
theorem dL_law_944 : decode cL_law 944 = .ok (.iconst 3, 1) := by decide +kernel
theorem dL_law_945 : decode cL_law 945 = .ok (.iadd, 1) := by decide +kernel
theorem dL_law_946 : decode cL_law 946 = .ok (.iaload, 1) := by decide +kernel
theorem dL_law_947 : decode cL_law 947 = .ok (.invokevirtual 112, 3) := by decide +kernel
theorem dL_law_950 : decode cL_law 950 = .ok (.if_icmp .eq 397, 3) := by decide +kernel
theorem dL_law_953 : decode cL_law 953 = .ok (.iconst 0, 1) := by decide +kernel
theorem dL_law_954 : decode cL_law 954 = .ok (.ireturn, 1) := by decide +kernel
theorem dL_law_955 : decode cL_law 955 = .ok (.aload_n 1, 1) := by decide +kernel
theorem dL_law_956 : decode cL_law 956 = .ok (.aload_n 0, 1) := by decide +kernel
theorem dL_law_957 : decode cL_law 957 = .ok (.iload_n 3, 1) := by decide +kernel
theorem dL_law_958 : decode cL_law 958 = .ok (.iconst 1, 1) := by decide +kernel
theorem dL_law_959 : decode cL_law 959 = .ok (.iadd, 1) := by decide +kernel
theorem dL_law_960 : decode cL_law 960 = .ok (.iaload, 1) := by decide +kernel
theorem dL_law_961 : decode cL_law 961 = .ok (.invokevirtual 113, 3) := by decide +kernel
theorem dL_law_964 : decode cL_law 964 = .ok (.aload_n 2, 1) := by decide +kernel
theorem dL_law_965 : decode cL_law 965 = .ok (.aload_n 0, 1) := by decide +kernel
theorem dL_law_966 : decode cL_law 966 = .ok (.iload_n 3, 1) := by decide +kernel
theorem dL_law_967 : decode cL_law 967 = .ok (.iconst 1, 1) := by decide +kernel
theorem dL_law_968 : decode cL_law 968 = .ok (.iadd, 1) := by decide +kernel
theorem dL_law_969 : decode cL_law 969 = .ok (.iaload, 1) := by decide +kernel
theorem dL_law_970 : decode cL_law 970 = .ok (.invokevirtual 116, 3) := by decide +kernel
theorem dL_law_973 : decode cL_law 973 = .ok (.if_icmp .eq 374, 3) := by decide +kernel
theorem dL_law_976 : decode cL_law 976 = .ok (.iconst 0, 1) := by decide +kernel
theorem dL_law_977 : decode cL_law 977 = .ok (.ireturn, 1) := by decide +kernel
theorem dL_law_978 : decode cL_law 978 = .ok (.aload_n 1, 1) := by decide +kernel
theorem dL_law_979 : decode cL_law 979 = .ok (.aload_n 0, 1) := by decide +kernel
theorem dL_law_980 : decode cL_law 980 = .ok (.iload_n 3, 1) := by decide +kernel
theorem dL_law_981 : decode cL_law 981 = .ok (.iconst 1, 1) := by decide +kernel
theorem dL_law_982 : decode cL_law 982 = .ok (.iadd, 1) := by decide +kernel
theorem dL_law_983 : decode cL_law 983 = .ok (.iaload, 1) := by decide +kernel
theorem dL_law_984 : decode cL_law 984 = .ok (.aload_n 0, 1) := by decide +kernel
theorem dL_law_985 : decode cL_law 985 = .ok (.iload_n 3, 1) := by decide +kernel
theorem dL_law_986 : decode cL_law 986 = .ok (.iconst 2, 1) := by decide +kernel
theorem dL_law_987 : decode cL_law 987 = .ok (.iadd, 1) := by decide +kernel
theorem dL_law_988 : decode cL_law 988 = .ok (.iaload, 1) := by decide +kernel
theorem dL_law_989 : decode cL_law 989 = .ok (.aload_n 0, 1) := by decide +kernel
theorem dL_law_990 : decode cL_law 990 = .ok (.iload_n 3, 1) := by decide +kernel
theorem dL_law_991 : decode cL_law 991 = .ok (.iconst 3, 1) := by decide +kernel
theorem dL_law_992 : decode cL_law 992 = .ok (.iadd, 1) := by decide +kernel
theorem dL_law_993 : decode cL_law 993 = .ok (.iaload, 1) := by decide +kernel
theorem dL_law_994 : decode cL_law 994 = .ok (.invokevirtual 117, 3) := by decide +kernel
theorem dL_law_997 : decode cL_law 997 = .ok (.aload_n 2, 1) := by decide +kernel
theorem dL_law_998 : decode cL_law 998 = .ok (.aload_n 0, 1) := by decide +kernel
theorem dL_law_999 : decode cL_law 999 = .ok (.iload_n 3, 1) := by decide +kernel
theorem dL_law_1000 : decode cL_law 1000 = .ok (.iconst 1, 1) := by decide +kernel
theorem dL_law_1001 : decode cL_law 1001 = .ok (.iadd, 1) := by decide +kernel
theorem dL_law_1002 : decode cL_law 1002 = .ok (.iaload, 1) := by decide +kernel
theorem dL_law_1003 : decode cL_law 1003 = .ok (.aload_n 0, 1) := by decide +kernel
theorem dL_law_1004 : decode cL_law 1004 = .ok (.iload_n 3, 1) := by decide +kernel
theorem dL_law_1005 : decode cL_law 1005 = .ok (.iconst 2, 1) := by decide +kernel
theorem dL_law_1006 : decode cL_law 1006 = .ok (.iadd, 1) := by decide +kernel
theorem dL_law_1007 : decode cL_law 1007 = .ok (.iaload, 1) := by decide +kernel
theorem dL_law_1008 : decode cL_law 1008 = .ok (.aload_n 0, 1) := by decide +kernel
theorem dL_law_1009 : decode cL_law 1009 = .ok (.iload_n 3, 1) := by decide +kernel
theorem dL_law_1010 : decode cL_law 1010 = .ok (.iconst 3, 1) := by decide +kernel
theorem dL_law_1011 : decode cL_law 1011 = .ok (.iadd, 1) := by decide +kernel
theorem dL_law_1012 : decode cL_law 1012 = .ok (.iaload, 1) := by decide +kernel
theorem dL_law_1013 : decode cL_law 1013 = .ok (.invokevirtual 120, 3) := by decide +kernel
theorem dL_law_1016 : decode cL_law 1016 = .ok (.if_icmp .eq 331, 3) := by decide +kernel
theorem dL_law_1019 : decode cL_law 1019 = .ok (.iconst 0, 1) := by decide +kernel
theorem dL_law_1020 : decode cL_law 1020 = .ok (.ireturn, 1) := by decide +kernel
theorem dL_law_1021 : decode cL_law 1021 = .ok (.aload_n 1, 1) := by decide +kernel
theorem dL_law_1022 : decode cL_law 1022 = .ok (.aload_n 0, 1) := by decide +kernel
theorem dL_law_1023 : decode cL_law 1023 = .ok (.iload_n 3, 1) := by decide +kernel
theorem dL_law_1024 : decode cL_law 1024 = .ok (.iconst 1, 1) := by decide +kernel
theorem dL_law_1025 : decode cL_law 1025 = .ok (.iadd, 1) := by decide +kernel
theorem dL_law_1026 : decode cL_law 1026 = .ok (.iaload, 1) := by decide +kernel
theorem dL_law_1027 : decode cL_law 1027 = .ok (.invokevirtual 121, 3) := by decide +kernel
theorem dL_law_1030 : decode cL_law 1030 = .ok (.aload_n 2, 1) := by decide +kernel
theorem dL_law_1031 : decode cL_law 1031 = .ok (.aload_n 0, 1) := by decide +kernel
theorem dL_law_1032 : decode cL_law 1032 = .ok (.iload_n 3, 1) := by decide +kernel
theorem dL_law_1033 : decode cL_law 1033 = .ok (.iconst 1, 1) := by decide +kernel
theorem dL_law_1034 : decode cL_law 1034 = .ok (.iadd, 1) := by decide +kernel
theorem dL_law_1035 : decode cL_law 1035 = .ok (.iaload, 1) := by decide +kernel
theorem dL_law_1036 : decode cL_law 1036 = .ok (.invokevirtual 124, 3) := by decide +kernel
theorem dL_law_1039 : decode cL_law 1039 = .ok (.if_icmp .eq 308, 3) := by decide +kernel
theorem dL_law_1042 : decode cL_law 1042 = .ok (.iconst 0, 1) := by decide +kernel
theorem dL_law_1043 : decode cL_law 1043 = .ok (.ireturn, 1) := by decide +kernel
theorem dL_law_1044 : decode cL_law 1044 = .ok (.aload_n 1, 1) := by decide +kernel
theorem dL_law_1045 : decode cL_law 1045 = .ok (.aload_n 0, 1) := by decide +kernel
theorem dL_law_1046 : decode cL_law 1046 = .ok (.iload_n 3, 1) := by decide +kernel
theorem dL_law_1047 : decode cL_law 1047 = .ok (.iconst 1, 1) := by decide +kernel
theorem dL_law_1048 : decode cL_law 1048 = .ok (.iadd, 1) := by decide +kernel
theorem dL_law_1049 : decode cL_law 1049 = .ok (.iaload, 1) := by decide +kernel
theorem dL_law_1050 : decode cL_law 1050 = .ok (.aload_n 0, 1) := by decide +kernel
theorem dL_law_1051 : decode cL_law 1051 = .ok (.iload_n 3, 1) := by decide +kernel
theorem dL_law_1052 : decode cL_law 1052 = .ok (.iconst 2, 1) := by decide +kernel
theorem dL_law_1053 : decode cL_law 1053 = .ok (.iadd, 1) := by decide +kernel
theorem dL_law_1054 : decode cL_law 1054 = .ok (.iaload, 1) := by decide +kernel
theorem dL_law_1055 : decode cL_law 1055 = .ok (.aload_n 0, 1) := by decide +kernel
theorem dL_law_1056 : decode cL_law 1056 = .ok (.iload_n 3, 1) := by decide +kernel
theorem dL_law_1057 : decode cL_law 1057 = .ok (.iconst 3, 1) := by decide +kernel
theorem dL_law_1058 : decode cL_law 1058 = .ok (.iadd, 1) := by decide +kernel
theorem dL_law_1059 : decode cL_law 1059 = .ok (.iaload, 1) := by decide +kernel
theorem dL_law_1060 : decode cL_law 1060 = .ok (.invokevirtual 125, 3) := by decide +kernel
theorem dL_law_1063 : decode cL_law 1063 = .ok (.aload_n 2, 1) := by decide +kernel
theorem dL_law_1064 : decode cL_law 1064 = .ok (.aload_n 0, 1) := by decide +kernel
theorem dL_law_1065 : decode cL_law 1065 = .ok (.iload_n 3, 1) := by decide +kernel
theorem dL_law_1066 : decode cL_law 1066 = .ok (.iconst 1, 1) := by decide +kernel
theorem dL_law_1067 : decode cL_law 1067 = .ok (.iadd, 1) := by decide +kernel
theorem dL_law_1068 : decode cL_law 1068 = .ok (.iaload, 1) := by decide +kernel
theorem dL_law_1069 : decode cL_law 1069 = .ok (.aload_n 0, 1) := by decide +kernel
theorem dL_law_1070 : decode cL_law 1070 = .ok (.iload_n 3, 1) := by decide +kernel
theorem dL_law_1071 : decode cL_law 1071 = .ok (.iconst 2, 1) := by decide +kernel
theorem dL_law_1072 : decode cL_law 1072 = .ok (.iadd, 1) := by decide +kernel
theorem dL_law_1073 : decode cL_law 1073 = .ok (.iaload, 1) := by decide +kernel
theorem dL_law_1074 : decode cL_law 1074 = .ok (.aload_n 0, 1) := by decide +kernel
theorem dL_law_1075 : decode cL_law 1075 = .ok (.iload_n 3, 1) := by decide +kernel
theorem dL_law_1076 : decode cL_law 1076 = .ok (.iconst 3, 1) := by decide +kernel
theorem dL_law_1077 : decode cL_law 1077 = .ok (.iadd, 1) := by decide +kernel
theorem dL_law_1078 : decode cL_law 1078 = .ok (.iaload, 1) := by decide +kernel
theorem dL_law_1079 : decode cL_law 1079 = .ok (.invokevirtual 128, 3) := by decide +kernel
theorem dL_law_1082 : decode cL_law 1082 = .ok (.if_icmp .eq 265, 3) := by decide +kernel
theorem dL_law_1085 : decode cL_law 1085 = .ok (.iconst 0, 1) := by decide +kernel
theorem dL_law_1086 : decode cL_law 1086 = .ok (.ireturn, 1) := by decide +kernel
theorem dL_law_1087 : decode cL_law 1087 = .ok (.aload_n 1, 1) := by decide +kernel
theorem dL_law_1088 : decode cL_law 1088 = .ok (.aload_n 0, 1) := by decide +kernel
theorem dL_law_1089 : decode cL_law 1089 = .ok (.iload_n 3, 1) := by decide +kernel
theorem dL_law_1090 : decode cL_law 1090 = .ok (.iconst 1, 1) := by decide +kernel
theorem dL_law_1091 : decode cL_law 1091 = .ok (.iadd, 1) := by decide +kernel
theorem dL_law_1092 : decode cL_law 1092 = .ok (.iaload, 1) := by decide +kernel
theorem dL_law_1093 : decode cL_law 1093 = .ok (.aload_n 0, 1) := by decide +kernel
theorem dL_law_1094 : decode cL_law 1094 = .ok (.iload_n 3, 1) := by decide +kernel
theorem dL_law_1095 : decode cL_law 1095 = .ok (.iconst 2, 1) := by decide +kernel
theorem dL_law_1096 : decode cL_law 1096 = .ok (.iadd, 1) := by decide +kernel
theorem dL_law_1097 : decode cL_law 1097 = .ok (.iaload, 1) := by decide +kernel
theorem dL_law_1098 : decode cL_law 1098 = .ok (.aload_n 0, 1) := by decide +kernel
theorem dL_law_1099 : decode cL_law 1099 = .ok (.iload_n 3, 1) := by decide +kernel
theorem dL_law_1100 : decode cL_law 1100 = .ok (.iconst 3, 1) := by decide +kernel
theorem dL_law_1101 : decode cL_law 1101 = .ok (.iadd, 1) := by decide +kernel
theorem dL_law_1102 : decode cL_law 1102 = .ok (.iaload, 1) := by decide +kernel
theorem dL_law_1103 : decode cL_law 1103 = .ok (.invokevirtual 129, 3) := by decide +kernel
theorem dL_law_1106 : decode cL_law 1106 = .ok (.aload_n 2, 1) := by decide +kernel
theorem dL_law_1107 : decode cL_law 1107 = .ok (.aload_n 0, 1) := by decide +kernel
theorem dL_law_1108 : decode cL_law 1108 = .ok (.iload_n 3, 1) := by decide +kernel
theorem dL_law_1109 : decode cL_law 1109 = .ok (.iconst 1, 1) := by decide +kernel
theorem dL_law_1110 : decode cL_law 1110 = .ok (.iadd, 1) := by decide +kernel
theorem dL_law_1111 : decode cL_law 1111 = .ok (.iaload, 1) := by decide +kernel
theorem dL_law_1112 : decode cL_law 1112 = .ok (.aload_n 0, 1) := by decide +kernel
theorem dL_law_1113 : decode cL_law 1113 = .ok (.iload_n 3, 1) := by decide +kernel
theorem dL_law_1114 : decode cL_law 1114 = .ok (.iconst 2, 1) := by decide +kernel
theorem dL_law_1115 : decode cL_law 1115 = .ok (.iadd, 1) := by decide +kernel
theorem dL_law_1116 : decode cL_law 1116 = .ok (.iaload, 1) := by decide +kernel
theorem dL_law_1117 : decode cL_law 1117 = .ok (.aload_n 0, 1) := by decide +kernel
theorem dL_law_1118 : decode cL_law 1118 = .ok (.iload_n 3, 1) := by decide +kernel
theorem dL_law_1119 : decode cL_law 1119 = .ok (.iconst 3, 1) := by decide +kernel
theorem dL_law_1120 : decode cL_law 1120 = .ok (.iadd, 1) := by decide +kernel
theorem dL_law_1121 : decode cL_law 1121 = .ok (.iaload, 1) := by decide +kernel
theorem dL_law_1122 : decode cL_law 1122 = .ok (.invokevirtual 132, 3) := by decide +kernel
theorem dL_law_1125 : decode cL_law 1125 = .ok (.if_icmp .eq 222, 3) := by decide +kernel
theorem dL_law_1128 : decode cL_law 1128 = .ok (.iconst 0, 1) := by decide +kernel
theorem dL_law_1129 : decode cL_law 1129 = .ok (.ireturn, 1) := by decide +kernel
theorem dL_law_1130 : decode cL_law 1130 = .ok (.aload_n 1, 1) := by decide +kernel
theorem dL_law_1131 : decode cL_law 1131 = .ok (.aload_n 0, 1) := by decide +kernel
theorem dL_law_1132 : decode cL_law 1132 = .ok (.iload_n 3, 1) := by decide +kernel
theorem dL_law_1133 : decode cL_law 1133 = .ok (.iconst 1, 1) := by decide +kernel
theorem dL_law_1134 : decode cL_law 1134 = .ok (.iadd, 1) := by decide +kernel
theorem dL_law_1135 : decode cL_law 1135 = .ok (.iaload, 1) := by decide +kernel
theorem dL_law_1136 : decode cL_law 1136 = .ok (.aload_n 0, 1) := by decide +kernel
theorem dL_law_1137 : decode cL_law 1137 = .ok (.iload_n 3, 1) := by decide +kernel
theorem dL_law_1138 : decode cL_law 1138 = .ok (.iconst 2, 1) := by decide +kernel
theorem dL_law_1139 : decode cL_law 1139 = .ok (.iadd, 1) := by decide +kernel
theorem dL_law_1140 : decode cL_law 1140 = .ok (.iaload, 1) := by decide +kernel
theorem dL_law_1141 : decode cL_law 1141 = .ok (.aload_n 0, 1) := by decide +kernel
theorem dL_law_1142 : decode cL_law 1142 = .ok (.iload_n 3, 1) := by decide +kernel
theorem dL_law_1143 : decode cL_law 1143 = .ok (.iconst 3, 1) := by decide +kernel
theorem dL_law_1144 : decode cL_law 1144 = .ok (.iadd, 1) := by decide +kernel
theorem dL_law_1145 : decode cL_law 1145 = .ok (.iaload, 1) := by decide +kernel
theorem dL_law_1146 : decode cL_law 1146 = .ok (.aload_n 0, 1) := by decide +kernel
theorem dL_law_1147 : decode cL_law 1147 = .ok (.iload_n 3, 1) := by decide +kernel
theorem dL_law_1148 : decode cL_law 1148 = .ok (.iconst 4, 1) := by decide +kernel
theorem dL_law_1149 : decode cL_law 1149 = .ok (.iadd, 1) := by decide +kernel
theorem dL_law_1150 : decode cL_law 1150 = .ok (.iaload, 1) := by decide +kernel
theorem dL_law_1151 : decode cL_law 1151 = .ok (.aload_n 0, 1) := by decide +kernel
theorem dL_law_1152 : decode cL_law 1152 = .ok (.iload_n 3, 1) := by decide +kernel
theorem dL_law_1153 : decode cL_law 1153 = .ok (.iconst 5, 1) := by decide +kernel
theorem dL_law_1154 : decode cL_law 1154 = .ok (.iadd, 1) := by decide +kernel
theorem dL_law_1155 : decode cL_law 1155 = .ok (.iaload, 1) := by decide +kernel
theorem dL_law_1156 : decode cL_law 1156 = .ok (.invokevirtual 133, 3) := by decide +kernel
theorem dL_law_1159 : decode cL_law 1159 = .ok (.aload_n 2, 1) := by decide +kernel
theorem dL_law_1160 : decode cL_law 1160 = .ok (.aload_n 0, 1) := by decide +kernel
theorem dL_law_1161 : decode cL_law 1161 = .ok (.iload_n 3, 1) := by decide +kernel
theorem dL_law_1162 : decode cL_law 1162 = .ok (.iconst 1, 1) := by decide +kernel
theorem dL_law_1163 : decode cL_law 1163 = .ok (.iadd, 1) := by decide +kernel
theorem dL_law_1164 : decode cL_law 1164 = .ok (.iaload, 1) := by decide +kernel
theorem dL_law_1165 : decode cL_law 1165 = .ok (.aload_n 0, 1) := by decide +kernel
theorem dL_law_1166 : decode cL_law 1166 = .ok (.iload_n 3, 1) := by decide +kernel
theorem dL_law_1167 : decode cL_law 1167 = .ok (.iconst 2, 1) := by decide +kernel
theorem dL_law_1168 : decode cL_law 1168 = .ok (.iadd, 1) := by decide +kernel
theorem dL_law_1169 : decode cL_law 1169 = .ok (.iaload, 1) := by decide +kernel
theorem dL_law_1170 : decode cL_law 1170 = .ok (.aload_n 0, 1) := by decide +kernel
theorem dL_law_1171 : decode cL_law 1171 = .ok (.iload_n 3, 1) := by decide +kernel
theorem dL_law_1172 : decode cL_law 1172 = .ok (.iconst 3, 1) := by decide +kernel
theorem dL_law_1173 : decode cL_law 1173 = .ok (.iadd, 1) := by decide +kernel
theorem dL_law_1174 : decode cL_law 1174 = .ok (.iaload, 1) := by decide +kernel
theorem dL_law_1175 : decode cL_law 1175 = .ok (.aload_n 0, 1) := by decide +kernel
theorem dL_law_1176 : decode cL_law 1176 = .ok (.iload_n 3, 1) := by decide +kernel
theorem dL_law_1177 : decode cL_law 1177 = .ok (.iconst 4, 1) := by decide +kernel
theorem dL_law_1178 : decode cL_law 1178 = .ok (.iadd, 1) := by decide +kernel
theorem dL_law_1179 : decode cL_law 1179 = .ok (.iaload, 1) := by decide +kernel
theorem dL_law_1180 : decode cL_law 1180 = .ok (.aload_n 0, 1) := by decide +kernel
theorem dL_law_1181 : decode cL_law 1181 = .ok (.iload_n 3, 1) := by decide +kernel
theorem dL_law_1182 : decode cL_law 1182 = .ok (.iconst 5, 1) := by decide +kernel
theorem dL_law_1183 : decode cL_law 1183 = .ok (.iadd, 1) := by decide +kernel
theorem dL_law_1184 : decode cL_law 1184 = .ok (.iaload, 1) := by decide +kernel
theorem dL_law_1185 : decode cL_law 1185 = .ok (.invokevirtual 137, 3) := by decide +kernel
theorem dL_law_1188 : decode cL_law 1188 = .ok (.if_icmp .eq 159, 3) := by decide +kernel
theorem dL_law_1191 : decode cL_law 1191 = .ok (.iconst 0, 1) := by decide +kernel
theorem dL_law_1192 : decode cL_law 1192 = .ok (.ireturn, 1) := by decide +kernel
theorem dL_law_1193 : decode cL_law 1193 = .ok (.aload_n 1, 1) := by decide +kernel
theorem dL_law_1194 : decode cL_law 1194 = .ok (.aload_n 0, 1) := by decide +kernel
theorem dL_law_1195 : decode cL_law 1195 = .ok (.iload_n 3, 1) := by decide +kernel
theorem dL_law_1196 : decode cL_law 1196 = .ok (.iconst 1, 1) := by decide +kernel
theorem dL_law_1197 : decode cL_law 1197 = .ok (.iadd, 1) := by decide +kernel
theorem dL_law_1198 : decode cL_law 1198 = .ok (.iaload, 1) := by decide +kernel
theorem dL_law_1199 : decode cL_law 1199 = .ok (.invokevirtual 138, 3) := by decide +kernel
theorem dL_law_1202 : decode cL_law 1202 = .ok (.aload_n 2, 1) := by decide +kernel
theorem dL_law_1203 : decode cL_law 1203 = .ok (.aload_n 0, 1) := by decide +kernel
theorem dL_law_1204 : decode cL_law 1204 = .ok (.iload_n 3, 1) := by decide +kernel
theorem dL_law_1205 : decode cL_law 1205 = .ok (.iconst 1, 1) := by decide +kernel
theorem dL_law_1206 : decode cL_law 1206 = .ok (.iadd, 1) := by decide +kernel
theorem dL_law_1207 : decode cL_law 1207 = .ok (.iaload, 1) := by decide +kernel
theorem dL_law_1208 : decode cL_law 1208 = .ok (.invokevirtual 141, 3) := by decide +kernel
theorem dL_law_1211 : decode cL_law 1211 = .ok (.if_icmp .eq 136, 3) := by decide +kernel
theorem dL_law_1214 : decode cL_law 1214 = .ok (.iconst 0, 1) := by decide +kernel
theorem dL_law_1215 : decode cL_law 1215 = .ok (.ireturn, 1) := by decide +kernel
theorem dL_law_1216 : decode cL_law 1216 = .ok (.aload_n 1, 1) := by decide +kernel
theorem dL_law_1217 : decode cL_law 1217 = .ok (.aload_n 0, 1) := by decide +kernel
theorem dL_law_1218 : decode cL_law 1218 = .ok (.iload_n 3, 1) := by decide +kernel
theorem dL_law_1219 : decode cL_law 1219 = .ok (.iconst 1, 1) := by decide +kernel
theorem dL_law_1220 : decode cL_law 1220 = .ok (.iadd, 1) := by decide +kernel
theorem dL_law_1221 : decode cL_law 1221 = .ok (.iaload, 1) := by decide +kernel
theorem dL_law_1222 : decode cL_law 1222 = .ok (.invokevirtual 142, 3) := by decide +kernel
theorem dL_law_1225 : decode cL_law 1225 = .ok (.aload_n 2, 1) := by decide +kernel
theorem dL_law_1226 : decode cL_law 1226 = .ok (.aload_n 0, 1) := by decide +kernel
theorem dL_law_1227 : decode cL_law 1227 = .ok (.iload_n 3, 1) := by decide +kernel
theorem dL_law_1228 : decode cL_law 1228 = .ok (.iconst 1, 1) := by decide +kernel
theorem dL_law_1229 : decode cL_law 1229 = .ok (.iadd, 1) := by decide +kernel
theorem dL_law_1230 : decode cL_law 1230 = .ok (.iaload, 1) := by decide +kernel
theorem dL_law_1231 : decode cL_law 1231 = .ok (.invokevirtual 145, 3) := by decide +kernel
theorem dL_law_1234 : decode cL_law 1234 = .ok (.if_icmp .eq 113, 3) := by decide +kernel
theorem dL_law_1237 : decode cL_law 1237 = .ok (.iconst 0, 1) := by decide +kernel
theorem dL_law_1238 : decode cL_law 1238 = .ok (.ireturn, 1) := by decide +kernel
theorem dL_law_1239 : decode cL_law 1239 = .ok (.aload_n 1, 1) := by decide +kernel
theorem dL_law_1240 : decode cL_law 1240 = .ok (.invokevirtual 146, 3) := by decide +kernel
theorem dL_law_1243 : decode cL_law 1243 = .ok (.aload_n 2, 1) := by decide +kernel
theorem dL_law_1244 : decode cL_law 1244 = .ok (.invokevirtual 149, 3) := by decide +kernel
theorem dL_law_1247 : decode cL_law 1247 = .ok (.if_icmp .eq 100, 3) := by decide +kernel
theorem dL_law_1250 : decode cL_law 1250 = .ok (.iconst 0, 1) := by decide +kernel
theorem dL_law_1251 : decode cL_law 1251 = .ok (.ireturn, 1) := by decide +kernel
theorem dL_law_1252 : decode cL_law 1252 = .ok (.aload_n 1, 1) := by decide +kernel
theorem dL_law_1253 : decode cL_law 1253 = .ok (.invokevirtual 150, 3) := by decide +kernel
theorem dL_law_1256 : decode cL_law 1256 = .ok (.aload_n 2, 1) := by decide +kernel
theorem dL_law_1257 : decode cL_law 1257 = .ok (.invokevirtual 153, 3) := by decide +kernel
theorem dL_law_1260 : decode cL_law 1260 = .ok (.if_icmp .eq 87, 3) := by decide +kernel
theorem dL_law_1263 : decode cL_law 1263 = .ok (.iconst 0, 1) := by decide +kernel
theorem dL_law_1264 : decode cL_law 1264 = .ok (.ireturn, 1) := by decide +kernel
theorem dL_law_1265 : decode cL_law 1265 = .ok (.aload_n 1, 1) := by decide +kernel
theorem dL_law_1266 : decode cL_law 1266 = .ok (.aload_n 0, 1) := by decide +kernel
theorem dL_law_1267 : decode cL_law 1267 = .ok (.iload_n 3, 1) := by decide +kernel
theorem dL_law_1268 : decode cL_law 1268 = .ok (.iconst 1, 1) := by decide +kernel
theorem dL_law_1269 : decode cL_law 1269 = .ok (.iadd, 1) := by decide +kernel
theorem dL_law_1270 : decode cL_law 1270 = .ok (.iaload, 1) := by decide +kernel
theorem dL_law_1271 : decode cL_law 1271 = .ok (.invokevirtual 154, 3) := by decide +kernel
theorem dL_law_1274 : decode cL_law 1274 = .ok (.aload_n 2, 1) := by decide +kernel
theorem dL_law_1275 : decode cL_law 1275 = .ok (.aload_n 0, 1) := by decide +kernel
theorem dL_law_1276 : decode cL_law 1276 = .ok (.iload_n 3, 1) := by decide +kernel
theorem dL_law_1277 : decode cL_law 1277 = .ok (.iconst 1, 1) := by decide +kernel
theorem dL_law_1278 : decode cL_law 1278 = .ok (.iadd, 1) := by decide +kernel
theorem dL_law_1279 : decode cL_law 1279 = .ok (.iaload, 1) := by decide +kernel
theorem dL_law_1280 : decode cL_law 1280 = .ok (.invokevirtual 157, 3) := by decide +kernel
theorem dL_law_1283 : decode cL_law 1283 = .ok (.if_icmp .eq 64, 3) := by decide +kernel
theorem dL_law_1286 : decode cL_law 1286 = .ok (.iconst 0, 1) := by decide +kernel
theorem dL_law_1287 : decode cL_law 1287 = .ok (.ireturn, 1) := by decide +kernel
theorem dL_law_1288 : decode cL_law 1288 = .ok (.aload_n 1, 1) := by decide +kernel
theorem dL_law_1289 : decode cL_law 1289 = .ok (.invokevirtual 158, 3) := by decide +kernel
theorem dL_law_1292 : decode cL_law 1292 = .ok (.aload_n 2, 1) := by decide +kernel
theorem dL_law_1293 : decode cL_law 1293 = .ok (.invokevirtual 161, 3) := by decide +kernel
theorem dL_law_1296 : decode cL_law 1296 = .ok (.if_icmp .eq 51, 3) := by decide +kernel
theorem dL_law_1299 : decode cL_law 1299 = .ok (.iconst 0, 1) := by decide +kernel
theorem dL_law_1300 : decode cL_law 1300 = .ok (.ireturn, 1) := by decide +kernel
theorem dL_law_1301 : decode cL_law 1301 = .ok (.aload_n 1, 1) := by decide +kernel
theorem dL_law_1302 : decode cL_law 1302 = .ok (.aload_n 0, 1) := by decide +kernel
theorem dL_law_1303 : decode cL_law 1303 = .ok (.iload_n 3, 1) := by decide +kernel
theorem dL_law_1304 : decode cL_law 1304 = .ok (.iconst 1, 1) := by decide +kernel
theorem dL_law_1305 : decode cL_law 1305 = .ok (.iadd, 1) := by decide +kernel
theorem dL_law_1306 : decode cL_law 1306 = .ok (.iaload, 1) := by decide +kernel
theorem dL_law_1307 : decode cL_law 1307 = .ok (.invokevirtual 162, 3) := by decide +kernel
theorem dL_law_1310 : decode cL_law 1310 = .ok (.aload_n 2, 1) := by decide +kernel
theorem dL_law_1311 : decode cL_law 1311 = .ok (.aload_n 0, 1) := by decide +kernel
theorem dL_law_1312 : decode cL_law 1312 = .ok (.iload_n 3, 1) := by decide +kernel
theorem dL_law_1313 : decode cL_law 1313 = .ok (.iconst 1, 1) := by decide +kernel
theorem dL_law_1314 : decode cL_law 1314 = .ok (.iadd, 1) := by decide +kernel
theorem dL_law_1315 : decode cL_law 1315 = .ok (.iaload, 1) := by decide +kernel
theorem dL_law_1316 : decode cL_law 1316 = .ok (.invokevirtual 165, 3) := by decide +kernel
theorem dL_law_1319 : decode cL_law 1319 = .ok (.if_icmp .eq 28, 3) := by decide +kernel
theorem dL_law_1322 : decode cL_law 1322 = .ok (.iconst 0, 1) := by decide +kernel
theorem dL_law_1323 : decode cL_law 1323 = .ok (.ireturn, 1) := by decide +kernel
theorem dL_law_1324 : decode cL_law 1324 = .ok (.aload_n 1, 1) := by decide +kernel
theorem dL_law_1325 : decode cL_law 1325 = .ok (.aload_n 0, 1) := by decide +kernel
theorem dL_law_1326 : decode cL_law 1326 = .ok (.iload_n 3, 1) := by decide +kernel
theorem dL_law_1327 : decode cL_law 1327 = .ok (.iconst 1, 1) := by decide +kernel
theorem dL_law_1328 : decode cL_law 1328 = .ok (.iadd, 1) := by decide +kernel
theorem dL_law_1329 : decode cL_law 1329 = .ok (.iaload, 1) := by decide +kernel
theorem dL_law_1330 : decode cL_law 1330 = .ok (.invokevirtual 166, 3) := by decide +kernel
theorem dL_law_1333 : decode cL_law 1333 = .ok (.aload_n 2, 1) := by decide +kernel
theorem dL_law_1334 : decode cL_law 1334 = .ok (.aload_n 0, 1) := by decide +kernel
theorem dL_law_1335 : decode cL_law 1335 = .ok (.iload_n 3, 1) := by decide +kernel
theorem dL_law_1336 : decode cL_law 1336 = .ok (.iconst 1, 1) := by decide +kernel
theorem dL_law_1337 : decode cL_law 1337 = .ok (.iadd, 1) := by decide +kernel
theorem dL_law_1338 : decode cL_law 1338 = .ok (.iaload, 1) := by decide +kernel
theorem dL_law_1339 : decode cL_law 1339 = .ok (.invokevirtual 169, 3) := by decide +kernel
theorem dL_law_1342 : decode cL_law 1342 = .ok (.if_icmp .eq 5, 3) := by decide +kernel
theorem dL_law_1345 : decode cL_law 1345 = .ok (.iconst 0, 1) := by decide +kernel
theorem dL_law_1346 : decode cL_law 1346 = .ok (.ireturn, 1) := by decide +kernel
theorem dL_law_1347 : decode cL_law 1347 = .ok (.iinc 3 6, 3) := by decide +kernel
theorem dL_law_1350 : decode cL_law 1350 = .ok (.goto (-1332), 3) := by decide +kernel
theorem dL_law_1353 : decode cL_law 1353 = .ok (.iconst 1, 1) := by decide +kernel
theorem dL_law_1354 : decode cL_law 1354 = .ok (.ireturn, 1) := by decide +kernel
end
section
def wsG : List Cond := lw_tbl.filter goodWord
theorem ws_t {w : Cond} {i : Nat} (h : tables_1[i]? = some w) (g : goodWord w = true) : w ∈ wsG := List.mem_filter.mpr ⟨List.mem_append_right _ (List.mem_of_getElem? h), g⟩
theorem ws_s {w : Cond} {i : Nat} (h : (k2_sels lw_privs)[i]? = some w) (g : goodWord w = true) : w ∈ wsG := List.mem_filter.mpr ⟨List.mem_append_left _ (List.mem_of_getElem? h), g⟩
theorem wsG_good : ∀ w ∈ wsG, goodWord w = true := fun w h => (List.mem_filter.mp h).2
theorem wsG_tbl : ∀ w ∈ wsG, w ∈ lw_tbl := fun w h => (List.mem_filter.mp h).1
theorem ws_l {ws : List Cond} (ps : List Nat) (hp : ws = ps.filterMap (fun i => tables_1[i]?)) (g : ws.all goodWord = true) : ∀ w ∈ ws, w ∈ wsG := by
  intro w hw
  have h1 := List.all_eq_true.mp g w hw
  rw [hp] at hw
  obtain ⟨i, -, hi⟩ := List.mem_filterMap.mp hw
  exact ws_t hi h1
theorem inlX0 : ∀ w ∈ wsX00, w ∈ wsG := ws_l [67, 69, 71, 73] (by decide +kernel) (by decide +kernel)
theorem inlX1 : ∀ w ∈ wsX10, w ∈ wsG := ws_l [139, 141, 143, 145, 147, 149] (by decide +kernel) (by decide +kernel)
theorem inlX2 : ∀ w ∈ wsX20, w ∈ wsG := ws_l [193, 195, 197] (by decide +kernel) (by decide +kernel)
theorem inlX3 : ∀ w ∈ wsX30, w ∈ wsG := ws_l [46, 48, 50] (by decide +kernel) (by decide +kernel)
theorem inlX4 : ∀ w ∈ wsX40, w ∈ wsG := ws_l [98, 100, 102, 104, 106, 108, 110, 112, 114, 116, 118, 120] (by decide +kernel) (by decide +kernel)
theorem inlX5 : ∀ w ∈ wsX50, w ∈ wsG := ws_l [167, 169, 171, 173, 175, 177] (by decide +kernel) (by decide +kernel)
theorem inlX6 : ∀ w ∈ wsX60, w ∈ wsG := ws_l [209, 211, 213, 215, 217, 219, 221, 223, 225] (by decide +kernel) (by decide +kernel)
theorem inlX7 : ∀ w ∈ wsX70, w ∈ wsG := ws_l [732, 734, 736, 738, 740, 742, 744, 746, 748, 750, 752, 754, 756, 758, 760, 762, 764, 766, 768, 770, 772, 774] (by decide +kernel) (by decide +kernel)
theorem cl_L_7 : (Cond.classLink RL 7 RX6) ∈ wsG := ws_t (i := 17) (by decide +kernel) (by decide +kernel)
theorem ins_X6 : (Cond.instantiable RX6 9) ∈ wsG := ws_t (i := 18) (by decide +kernel) (by decide +kernel)
theorem ini_X6 : (Cond.initialized RX6) ∈ wsG := ws_t (i := 1) (by decide +kernel) (by decide +kernel)
theorem cl_L_10 : (Cond.classLink RL 10 RX7) ∈ wsG := ws_t (i := 704) (by decide +kernel) (by decide +kernel)
theorem ins_X7 : (Cond.instantiable RX7 22) ∈ wsG := ws_t (i := 705) (by decide +kernel) (by decide +kernel)
theorem ini_X7 : (Cond.initialized RX7) ∈ wsG := ws_t (i := 8) (by decide +kernel) (by decide +kernel)
theorem kl_L_47 : (Cond.constantLong RL 47 (4294967295)) ∈ wsG := ws_t (i := 1139) (by decide +kernel) (by decide +kernel)
theorem ml_L_9 : (Cond.methodLink RL 9 yX6_init) ∈ wsG := ws_t (i := 19) (by decide +kernel) (by decide +kernel)
theorem im_X6_init : (Cond.instanceMethod yX6_init) ∈ wsG := ws_t (i := 20) (by decide +kernel) (by decide +kernel)
theorem cd_X6_init : (Cond.code yX6_init cX6_init 1 none) ∈ wsG := ws_t (i := 21) (by decide +kernel) (by decide +kernel)
theorem ml_X6_1 : (Cond.methodLink RX6 1 objectInit) ∈ wsG := ws_t (i := 22) (by decide +kernel) (by decide +kernel)
theorem im_obj : (Cond.instanceMethod objectInit) ∈ wsG := ws_t (i := 23) (by decide +kernel) (by decide +kernel)
theorem cd_obj : (Cond.code objectInit ⟨#[0xb1]⟩ 1 none) ∈ wsG := ws_t (i := 24) (by decide +kernel) (by decide +kernel)
theorem cl_X6_7 : (Cond.classLink RX6 7 RX4) ∈ wsG := ws_t (i := 25) (by decide +kernel) (by decide +kernel)
theorem ins_X4 : (Cond.instantiable RX4 12) ∈ wsG := ws_t (i := 26) (by decide +kernel) (by decide +kernel)
theorem ini_X4 : (Cond.initialized RX4) ∈ wsG := ws_t (i := 2) (by decide +kernel) (by decide +kernel)
theorem fl_X6_10 : (Cond.fieldLink RX6 10 "GoingAbout" "now" "LGoingAbout$Suburb;") ∈ wsG := ws_t (i := 200) (by decide +kernel) (by decide +kernel)
theorem fl_X6_16 : (Cond.fieldLink RX6 16 "GoingAbout" "kept" "LGoingAbout$Suburb;") ∈ wsG := ws_t (i := 201) (by decide +kernel) (by decide +kernel)
theorem cl_X6_19 : (Cond.classLink RX6 19 RX3) ∈ wsG := ws_t (i := 124) (by decide +kernel) (by decide +kernel)
theorem ins_X3 : (Cond.instantiable RX3 3) ∈ wsG := ws_t (i := 32) (by decide +kernel) (by decide +kernel)
theorem ini_X3 : (Cond.initialized RX3) ∈ wsG := ws_t (i := 3) (by decide +kernel) (by decide +kernel)
theorem fl_X6_22 : (Cond.fieldLink RX6 22 "GoingAbout" "thought" "LGoingAbout$Standing;") ∈ wsG := ws_t (i := 203) (by decide +kernel) (by decide +kernel)
theorem fl_X6_26 : (Cond.fieldLink RX6 26 "GoingAbout" "signed" "LGoingAbout$Standing;") ∈ wsG := ws_t (i := 204) (by decide +kernel) (by decide +kernel)
theorem cl_X6_29 : (Cond.classLink RX6 29 RX1) ∈ wsG := ws_t (i := 126) (by decide +kernel) (by decide +kernel)
theorem ins_X1 : (Cond.instantiable RX1 6) ∈ wsG := ws_t (i := 127) (by decide +kernel) (by decide +kernel)
theorem ini_X1 : (Cond.initialized RX1) ∈ wsG := ws_t (i := 5) (by decide +kernel) (by decide +kernel)
theorem fl_X6_32 : (Cond.fieldLink RX6 32 "GoingAbout" "reading" "LGoingAbout$Reading;") ∈ wsG := ws_t (i := 205) (by decide +kernel) (by decide +kernel)
theorem cl_X6_36 : (Cond.classLink RX6 36 RX5) ∈ wsG := ws_t (i := 152) (by decide +kernel) (by decide +kernel)
theorem ins_X5 : (Cond.instantiable RX5 6) ∈ wsG := ws_t (i := 153) (by decide +kernel) (by decide +kernel)
theorem ini_X5 : (Cond.initialized RX5) ∈ wsG := ws_t (i := 6) (by decide +kernel) (by decide +kernel)
theorem fl_X6_39 : (Cond.fieldLink RX6 39 "GoingAbout" "voices" "LGoingAbout$Voices;") ∈ wsG := ws_t (i := 206) (by decide +kernel) (by decide +kernel)
theorem cl_X6_43 : (Cond.classLink RX6 43 RX2) ∈ wsG := ws_t (i := 180) (by decide +kernel) (by decide +kernel)
theorem ins_X2 : (Cond.instantiable RX2 3) ∈ wsG := ws_t (i := 182) (by decide +kernel) (by decide +kernel)
theorem ini_X2 : (Cond.initialized RX2) ∈ wsG := ws_t (i := 7) (by decide +kernel) (by decide +kernel)
theorem fl_X6_46 : (Cond.fieldLink RX6 46 "GoingAbout" "sheets" "[LGoingAbout$Sheet;") ∈ wsG := ws_t (i := 207) (by decide +kernel) (by decide +kernel)
theorem ac_int : (Cond.arrayClass .int) ∈ wsG := ws_t (i := 53) (by decide +kernel) (by decide +kernel)
theorem fl_X6_50 : (Cond.fieldLink RX6 50 "GoingAbout" "errors" "[I") ∈ wsG := ws_t (i := 208) (by decide +kernel) (by decide +kernel)
theorem ml_X6_9 : (Cond.methodLink RX6 9 yX4_init) ∈ wsG := ws_t (i := 27) (by decide +kernel) (by decide +kernel)
theorem im_X4_init : (Cond.instanceMethod yX4_init) ∈ wsG := ws_t (i := 28) (by decide +kernel) (by decide +kernel)
theorem cd_X4_init : (Cond.code yX4_init cX4_init 1 none) ∈ wsG := ws_t (i := 29) (by decide +kernel) (by decide +kernel)
theorem ml_X4_3 : (Cond.methodLink RX4 3 objectInit) ∈ wsG := ws_t (i := 30) (by decide +kernel) (by decide +kernel)
theorem fl_X4_9 : (Cond.fieldLink RX4 9 "GoingAbout$Suburb" "kind" "[I") ∈ wsG := ws_t (i := 78) (by decide +kernel) (by decide +kernel)
theorem fl_X4_15 : (Cond.fieldLink RX4 15 "GoingAbout$Suburb" "m" "[I") ∈ wsG := ws_t (i := 80) (by decide +kernel) (by decide +kernel)
theorem fl_X4_18 : (Cond.fieldLink RX4 18 "GoingAbout$Suburb" "called" "[I") ∈ wsG := ws_t (i := 82) (by decide +kernel) (by decide +kernel)
theorem cl_X4_21 : (Cond.classLink RX4 21 RX3) ∈ wsG := ws_t (i := 31) (by decide +kernel) (by decide +kernel)
theorem fl_X4_24 : (Cond.fieldLink RX4 24 "GoingAbout$Suburb" "standing" "LGoingAbout$Standing;") ∈ wsG := ws_t (i := 84) (by decide +kernel) (by decide +kernel)
theorem cl_X4_28 : (Cond.classLink RX4 28 RX0) ∈ wsG := ws_t (i := 54) (by decide +kernel) (by decide +kernel)
theorem ins_X0 : (Cond.instantiable RX0 4) ∈ wsG := ws_t (i := 55) (by decide +kernel) (by decide +kernel)
theorem ini_X0 : (Cond.initialized RX0) ∈ wsG := ws_t (i := 4) (by decide +kernel) (by decide +kernel)
theorem fl_X4_33 : (Cond.fieldLink RX4 33 "GoingAbout$Suburb" "takes" "LGoingAbout$Law;") ∈ wsG := ws_t (i := 86) (by decide +kernel) (by decide +kernel)
theorem fl_X4_37 : (Cond.fieldLink RX4 37 "GoingAbout$Suburb" "sign" "LGoingAbout$Law;") ∈ wsG := ws_t (i := 87) (by decide +kernel) (by decide +kernel)
theorem ac_byte : (Cond.arrayClass .byte) ∈ wsG := ws_t (i := 123) (by decide +kernel) (by decide +kernel)
theorem fl_X4_40 : (Cond.fieldLink RX4 40 "GoingAbout$Suburb" "tape" "[B") ∈ wsG := ws_t (i := 88) (by decide +kernel) (by decide +kernel)
theorem fl_X4_44 : (Cond.fieldLink RX4 44 "GoingAbout$Suburb" "waits" "[I") ∈ wsG := ws_t (i := 92) (by decide +kernel) (by decide +kernel)
theorem fl_X4_47 : (Cond.fieldLink RX4 47 "GoingAbout$Suburb" "z" "I") ∈ wsG := ws_t (i := 96) (by decide +kernel) (by decide +kernel)
theorem ml_X4_23 : (Cond.methodLink RX4 23 yX3_init) ∈ wsG := ws_t (i := 33) (by decide +kernel) (by decide +kernel)
theorem im_X3_init : (Cond.instanceMethod yX3_init) ∈ wsG := ws_t (i := 34) (by decide +kernel) (by decide +kernel)
theorem cd_X3_init : (Cond.code yX3_init cX3_init 1 none) ∈ wsG := ws_t (i := 35) (by decide +kernel) (by decide +kernel)
theorem ml_X3_3 : (Cond.methodLink RX3 3 objectInit) ∈ wsG := ws_t (i := 36) (by decide +kernel) (by decide +kernel)
theorem fl_X3_9 : (Cond.fieldLink RX3 9 "GoingAbout$Standing" "near" "[I") ∈ wsG := ws_t (i := 37) (by decide +kernel) (by decide +kernel)
theorem fl_X3_15 : (Cond.fieldLink RX3 15 "GoingAbout$Standing" "shows" "[I") ∈ wsG := ws_t (i := 40) (by decide +kernel) (by decide +kernel)
theorem im_X0_init : (Cond.instanceMethod yX0_init) ∈ wsG := ws_t (i := 57) (by decide +kernel) (by decide +kernel)
theorem cd_X0_init : (Cond.code yX0_init cX0_init 2 none) ∈ wsG := ws_t (i := 58) (by decide +kernel) (by decide +kernel)
theorem ml_X0_3 : (Cond.methodLink RX0 3 objectInit) ∈ wsG := ws_t (i := 59) (by decide +kernel) (by decide +kernel)
theorem fl_X0_9 : (Cond.fieldLink RX0 9 "GoingAbout$Law" "steps" "[I") ∈ wsG := ws_t (i := 61) (by decide +kernel) (by decide +kernel)
theorem fl_X0_15 : (Cond.fieldLink RX0 15 "GoingAbout$Law" "stack" "[I") ∈ wsG := ws_t (i := 66) (by decide +kernel) (by decide +kernel)
theorem fl_X0_18 : (Cond.fieldLink RX0 18 "GoingAbout$Law" "most" "I") ∈ wsG := ws_t (i := 60) (by decide +kernel) (by decide +kernel)
theorem ml_X6_21 : (Cond.methodLink RX6 21 yX3_init) ∈ wsG := ws_t (i := 125) (by decide +kernel) (by decide +kernel)
theorem ml_X6_31 : (Cond.methodLink RX6 31 yX1_init) ∈ wsG := ws_t (i := 128) (by decide +kernel) (by decide +kernel)
theorem im_X1_init : (Cond.instanceMethod yX1_init) ∈ wsG := ws_t (i := 129) (by decide +kernel) (by decide +kernel)
theorem cd_X1_init : (Cond.code yX1_init cX1_init 1 none) ∈ wsG := ws_t (i := 130) (by decide +kernel) (by decide +kernel)
theorem ml_X1_3 : (Cond.methodLink RX1 3 objectInit) ∈ wsG := ws_t (i := 131) (by decide +kernel) (by decide +kernel)
theorem fl_X1_9 : (Cond.fieldLink RX1 9 "GoingAbout$Reading" "bytes" "[B") ∈ wsG := ws_t (i := 133) (by decide +kernel) (by decide +kernel)
theorem fl_X1_17 : (Cond.fieldLink RX1 17 "GoingAbout$Reading" "names" "Ljava/lang/String;") ∈ wsG := ws_t (i := 136) (by decide +kernel) (by decide +kernel)
theorem fl_X1_21 : (Cond.fieldLink RX1 21 "GoingAbout$Reading" "steps" "[I") ∈ wsG := ws_t (i := 137) (by decide +kernel) (by decide +kernel)
theorem ml_X6_38 : (Cond.methodLink RX6 38 yX5_init) ∈ wsG := ws_t (i := 154) (by decide +kernel) (by decide +kernel)
theorem im_X5_init : (Cond.instanceMethod yX5_init) ∈ wsG := ws_t (i := 155) (by decide +kernel) (by decide +kernel)
theorem cd_X5_init : (Cond.code yX5_init cX5_init 1 none) ∈ wsG := ws_t (i := 156) (by decide +kernel) (by decide +kernel)
theorem ml_X5_3 : (Cond.methodLink RX5 3 objectInit) ∈ wsG := ws_t (i := 157) (by decide +kernel) (by decide +kernel)
theorem fl_X5_11 : (Cond.fieldLink RX5 11 "GoingAbout$Voices" "trace" "[I") ∈ wsG := ws_t (i := 158) (by decide +kernel) (by decide +kernel)
theorem ml_X6_45 : (Cond.methodLink RX6 45 yX2_init) ∈ wsG := ws_t (i := 183) (by decide +kernel) (by decide +kernel)
theorem im_X2_init : (Cond.instanceMethod yX2_init) ∈ wsG := ws_t (i := 184) (by decide +kernel) (by decide +kernel)
theorem cd_X2_init : (Cond.code yX2_init cX2_init 1 none) ∈ wsG := ws_t (i := 185) (by decide +kernel) (by decide +kernel)
theorem ml_X2_3 : (Cond.methodLink RX2 3 objectInit) ∈ wsG := ws_t (i := 186) (by decide +kernel) (by decide +kernel)
theorem fl_X2_9 : (Cond.fieldLink RX2 9 "GoingAbout$Sheet" "numbers" "[I") ∈ wsG := ws_t (i := 191) (by decide +kernel) (by decide +kernel)
theorem ml_L_12 : (Cond.methodLink RL 12 yX7_init) ∈ wsG := ws_t (i := 706) (by decide +kernel) (by decide +kernel)
theorem im_X7_init : (Cond.instanceMethod yX7_init) ∈ wsG := ws_t (i := 707) (by decide +kernel) (by decide +kernel)
theorem cd_X7_init : (Cond.code yX7_init cX7_init 1 none) ∈ wsG := ws_t (i := 708) (by decide +kernel) (by decide +kernel)
theorem ml_X7_1 : (Cond.methodLink RX7 1 objectInit) ∈ wsG := ws_t (i := 709) (by decide +kernel) (by decide +kernel)
theorem fl_X7_7 : (Cond.fieldLink RX7 7 "GoingAboutModel" "s" "[I") ∈ wsG := ws_t (i := 710) (by decide +kernel) (by decide +kernel)
theorem fl_X7_13 : (Cond.fieldLink RX7 13 "GoingAboutModel" "kept" "[I") ∈ wsG := ws_t (i := 711) (by decide +kernel) (by decide +kernel)
theorem fl_X7_16 : (Cond.fieldLink RX7 16 "GoingAboutModel" "laid" "[I") ∈ wsG := ws_t (i := 712) (by decide +kernel) (by decide +kernel)
theorem fl_X7_19 : (Cond.fieldLink RX7 19 "GoingAboutModel" "errors" "[I") ∈ wsG := ws_t (i := 714) (by decide +kernel) (by decide +kernel)
theorem fl_X7_22 : (Cond.fieldLink RX7 22 "GoingAboutModel" "step" "[I") ∈ wsG := ws_t (i := 719) (by decide +kernel) (by decide +kernel)
theorem fl_X7_25 : (Cond.fieldLink RX7 25 "GoingAboutModel" "named" "[I") ∈ wsG := ws_t (i := 720) (by decide +kernel) (by decide +kernel)
theorem fl_X7_28 : (Cond.fieldLink RX7 28 "GoingAboutModel" "pile" "[I") ∈ wsG := ws_t (i := 721) (by decide +kernel) (by decide +kernel)
theorem fl_X7_31 : (Cond.fieldLink RX7 31 "GoingAboutModel" "nearThen" "[I") ∈ wsG := ws_t (i := 722) (by decide +kernel) (by decide +kernel)
theorem fl_X7_34 : (Cond.fieldLink RX7 34 "GoingAboutModel" "shownThen" "[I") ∈ wsG := ws_t (i := 723) (by decide +kernel) (by decide +kernel)
theorem fl_X7_37 : (Cond.fieldLink RX7 37 "GoingAboutModel" "trace" "[I") ∈ wsG := ws_t (i := 725) (by decide +kernel) (by decide +kernel)
theorem fl_X7_40 : (Cond.fieldLink RX7 40 "GoingAboutModel" "bits" "[I") ∈ wsG := ws_t (i := 728) (by decide +kernel) (by decide +kernel)
theorem fl_X7_43 : (Cond.fieldLink RX7 43 "GoingAboutModel" "sizes" "[I") ∈ wsG := ws_t (i := 729) (by decide +kernel) (by decide +kernel)
theorem fl_X7_46 : (Cond.fieldLink RX7 46 "GoingAboutModel" "number" "[I") ∈ wsG := ws_t (i := 730) (by decide +kernel) (by decide +kernel)
theorem fl_X7_49 : (Cond.fieldLink RX7 49 "GoingAboutModel" "aside" "[I") ∈ wsG := ws_t (i := 731) (by decide +kernel) (by decide +kernel)
theorem ml_L_13 : (Cond.methodLink RL 13 yX6_person) ∈ wsG := ws_t (i := 228) (by decide +kernel) (by decide +kernel)
theorem im_X6_person : (Cond.instanceMethod yX6_person) ∈ wsG := ws_t (i := 229) (by decide +kernel) (by decide +kernel)
theorem sel_X6_person : (Cond.selects RX6 yX6_person yX6_person) ∈ wsG := ws_t (i := 230) (by decide +kernel) (by decide +kernel)
theorem cd_X6_person : (Cond.code yX6_person cX6_person 4 (some .int)) ∈ wsG := ws_t (i := 231) (by decide +kernel) (by decide +kernel)
theorem ml_X6_54 : (Cond.methodLink RX6 54 yX6_isKind) ∈ wsG := ws_t (i := 232) (by decide +kernel) (by decide +kernel)
theorem st_X6_isKind : (Cond.static yX6_isKind) ∈ wsG := ws_t (i := 233) (by decide +kernel) (by decide +kernel)
theorem cd_X6_isKind : (Cond.code yX6_isKind cX6_isKind 1 (some .boolean)) ∈ wsG := ws_t (i := 234) (by decide +kernel) (by decide +kernel)
theorem ml_X6_97 : (Cond.methodLink RX6 97 yX6_isWithin) ∈ wsG := ws_t (i := 235) (by decide +kernel) (by decide +kernel)
theorem st_X6_isWithin : (Cond.static yX6_isWithin) ∈ wsG := ws_t (i := 236) (by decide +kernel) (by decide +kernel)
theorem cd_X6_isWithin : (Cond.code yX6_isWithin cX6_isWithin 2 (some .boolean)) ∈ wsG := ws_t (i := 237) (by decide +kernel) (by decide +kernel)
theorem ml_X6_58 : (Cond.methodLink RX6 58 yX6_isNear) ∈ wsG := ws_t (i := 238) (by decide +kernel) (by decide +kernel)
theorem st_X6_isNear : (Cond.static yX6_isNear) ∈ wsG := ws_t (i := 239) (by decide +kernel) (by decide +kernel)
theorem cd_X6_isNear : (Cond.code yX6_isNear cX6_isNear 1 (some .boolean)) ∈ wsG := ws_t (i := 240) (by decide +kernel) (by decide +kernel)
theorem ml_X6_61 : (Cond.methodLink RX6 61 yX6_isSign) ∈ wsG := ws_t (i := 241) (by decide +kernel) (by decide +kernel)
theorem st_X6_isSign : (Cond.static yX6_isSign) ∈ wsG := ws_t (i := 242) (by decide +kernel) (by decide +kernel)
theorem cd_X6_isSign : (Cond.code yX6_isSign cX6_isSign 1 (some .boolean)) ∈ wsG := ws_t (i := 243) (by decide +kernel) (by decide +kernel)
theorem ml_X6_64 : (Cond.methodLink RX6 64 yX6_error) ∈ wsG := ws_t (i := 244) (by decide +kernel) (by decide +kernel)
theorem im_X6_error : (Cond.instanceMethod yX6_error) ∈ wsG := ws_t (i := 246) (by decide +kernel) (by decide +kernel)
theorem sel_X6_error : (Cond.selects RX6 yX6_error yX6_error) ∈ wsG := ws_s (i := 0) (by decide +kernel) (by decide +kernel)
theorem cd_X6_error : (Cond.code yX6_error cX6_error 2 (some .int)) ∈ wsG := ws_t (i := 247) (by decide +kernel) (by decide +kernel)
theorem kc_X6_256 : (Cond.constant RX6 256 (-1000000000)) ∈ wsG := ws_t (i := 248) (by decide +kernel) (by decide +kernel)
theorem im_X4_join : (Cond.instanceMethod yX4_join) ∈ wsG := ws_t (i := 251) (by decide +kernel) (by decide +kernel)
theorem sel_X4_join : (Cond.selects RX4 yX4_join yX4_join) ∈ wsG := ws_s (i := 1) (by decide +kernel) (by decide +kernel)
theorem cd_X4_join : (Cond.code yX4_join cX4_join 5 (some .int)) ∈ wsG := ws_t (i := 252) (by decide +kernel) (by decide +kernel)
theorem fl_X4_51 : (Cond.fieldLink RX4 51 "GoingAbout$Suburb" "people" "I") ∈ wsG := ws_t (i := 76) (by decide +kernel) (by decide +kernel)
theorem ml_L_17 : (Cond.methodLink RL 17 yX7_person) ∈ wsG := ws_t (i := 842) (by decide +kernel) (by decide +kernel)
theorem im_X7_person : (Cond.instanceMethod yX7_person) ∈ wsG := ws_t (i := 843) (by decide +kernel) (by decide +kernel)
theorem sel_X7_person : (Cond.selects RX7 yX7_person yX7_person) ∈ wsG := ws_t (i := 844) (by decide +kernel) (by decide +kernel)
theorem cd_X7_person : (Cond.code yX7_person cX7_person 5 (some .int)) ∈ wsG := ws_t (i := 845) (by decide +kernel) (by decide +kernel)
theorem ml_X7_159 : (Cond.methodLink RX7 159 yX7_isKind) ∈ wsG := ws_t (i := 846) (by decide +kernel) (by decide +kernel)
theorem st_X7_isKind : (Cond.static yX7_isKind) ∈ wsG := ws_t (i := 847) (by decide +kernel) (by decide +kernel)
theorem cd_X7_isKind : (Cond.code yX7_isKind cX7_isKind 1 (some .boolean)) ∈ wsG := ws_t (i := 848) (by decide +kernel) (by decide +kernel)
theorem ml_X7_53 : (Cond.methodLink RX7 53 yX7_in) ∈ wsG := ws_t (i := 781) (by decide +kernel) (by decide +kernel)
theorem st_X7_in : (Cond.static yX7_in) ∈ wsG := ws_t (i := 782) (by decide +kernel) (by decide +kernel)
theorem cd_X7_in : (Cond.code yX7_in cX7_in 3 (some .boolean)) ∈ wsG := ws_t (i := 783) (by decide +kernel) (by decide +kernel)
theorem ml_X7_61 : (Cond.methodLink RX7 61 yX7_error) ∈ wsG := ws_t (i := 784) (by decide +kernel) (by decide +kernel)
theorem im_X7_error : (Cond.instanceMethod yX7_error) ∈ wsG := ws_t (i := 786) (by decide +kernel) (by decide +kernel)
theorem sel_X7_error : (Cond.selects RX7 yX7_error yX7_error) ∈ wsG := ws_s (i := 41) (by decide +kernel) (by decide +kernel)
theorem cd_X7_error : (Cond.code yX7_error cX7_error 2 (some .int)) ∈ wsG := ws_t (i := 787) (by decide +kernel) (by decide +kernel)
theorem kc_X7_52 : (Cond.constant RX7 52 (-1000000000)) ∈ wsG := ws_t (i := 788) (by decide +kernel) (by decide +kernel)
theorem ml_X7_151 : (Cond.methodLink RX7 151 yX7_lays1) ∈ wsG := ws_t (i := 849) (by decide +kernel) (by decide +kernel)
theorem im_X7_lays1 : (Cond.instanceMethod yX7_lays1) ∈ wsG := ws_t (i := 851) (by decide +kernel) (by decide +kernel)
theorem sel_X7_lays1 : (Cond.selects RX7 yX7_lays1 yX7_lays1) ∈ wsG := ws_s (i := 53) (by decide +kernel) (by decide +kernel)
theorem cd_X7_lays1 : (Cond.code yX7_lays1 cX7_lays1 4 none) ∈ wsG := ws_t (i := 852) (by decide +kernel) (by decide +kernel)
theorem ml_L_18 : (Cond.methodLink RL 18 yX6_personIs) ∈ wsG := ws_t (i := 253) (by decide +kernel) (by decide +kernel)
theorem im_X6_personIs : (Cond.instanceMethod yX6_personIs) ∈ wsG := ws_t (i := 254) (by decide +kernel) (by decide +kernel)
theorem sel_X6_personIs : (Cond.selects RX6 yX6_personIs yX6_personIs) ∈ wsG := ws_t (i := 255) (by decide +kernel) (by decide +kernel)
theorem cd_X6_personIs : (Cond.code yX6_personIs cX6_personIs 3 (some .int)) ∈ wsG := ws_t (i := 256) (by decide +kernel) (by decide +kernel)
theorem im_X4_has : (Cond.instanceMethod yX4_has) ∈ wsG := ws_t (i := 259) (by decide +kernel) (by decide +kernel)
theorem sel_X4_has : (Cond.selects RX4 yX4_has yX4_has) ∈ wsG := ws_s (i := 2) (by decide +kernel) (by decide +kernel)
theorem cd_X4_has : (Cond.code yX4_has cX4_has 2 (some .boolean)) ∈ wsG := ws_t (i := 260) (by decide +kernel) (by decide +kernel)
theorem ml_L_22 : (Cond.methodLink RL 22 yX7_personIs) ∈ wsG := ws_t (i := 853) (by decide +kernel) (by decide +kernel)
theorem im_X7_personIs : (Cond.instanceMethod yX7_personIs) ∈ wsG := ws_t (i := 854) (by decide +kernel) (by decide +kernel)
theorem sel_X7_personIs : (Cond.selects RX7 yX7_personIs yX7_personIs) ∈ wsG := ws_t (i := 855) (by decide +kernel) (by decide +kernel)
theorem cd_X7_personIs : (Cond.code yX7_personIs cX7_personIs 3 (some .int)) ∈ wsG := ws_t (i := 856) (by decide +kernel) (by decide +kernel)
theorem ml_X7_57 : (Cond.methodLink RX7 57 yX7_isPerson) ∈ wsG := ws_t (i := 857) (by decide +kernel) (by decide +kernel)
theorem im_X7_isPerson : (Cond.instanceMethod yX7_isPerson) ∈ wsG := ws_t (i := 859) (by decide +kernel) (by decide +kernel)
theorem sel_X7_isPerson : (Cond.selects RX7 yX7_isPerson yX7_isPerson) ∈ wsG := ws_s (i := 54) (by decide +kernel) (by decide +kernel)
theorem cd_X7_isPerson : (Cond.code yX7_isPerson cX7_isPerson 2 (some .boolean)) ∈ wsG := ws_t (i := 860) (by decide +kernel) (by decide +kernel)
theorem ml_X7_120 : (Cond.methodLink RX7 120 yX7_its) ∈ wsG := ws_t (i := 861) (by decide +kernel) (by decide +kernel)
theorem im_X7_its : (Cond.instanceMethod yX7_its) ∈ wsG := ws_t (i := 863) (by decide +kernel) (by decide +kernel)
theorem sel_X7_its : (Cond.selects RX7 yX7_its yX7_its) ∈ wsG := ws_s (i := 55) (by decide +kernel) (by decide +kernel)
theorem cd_X7_its : (Cond.code yX7_its cX7_its 3 (some .int)) ∈ wsG := ws_t (i := 864) (by decide +kernel) (by decide +kernel)
theorem ml_L_23 : (Cond.methodLink RL 23 yX6_become) ∈ wsG := ws_t (i := 261) (by decide +kernel) (by decide +kernel)
theorem im_X6_become : (Cond.instanceMethod yX6_become) ∈ wsG := ws_t (i := 262) (by decide +kernel) (by decide +kernel)
theorem sel_X6_become : (Cond.selects RX6 yX6_become yX6_become) ∈ wsG := ws_t (i := 263) (by decide +kernel) (by decide +kernel)
theorem cd_X6_become : (Cond.code yX6_become cX6_become 4 (some .int)) ∈ wsG := ws_t (i := 264) (by decide +kernel) (by decide +kernel)
theorem ml_L_26 : (Cond.methodLink RL 26 yX7_become) ∈ wsG := ws_t (i := 865) (by decide +kernel) (by decide +kernel)
theorem im_X7_become : (Cond.instanceMethod yX7_become) ∈ wsG := ws_t (i := 866) (by decide +kernel) (by decide +kernel)
theorem sel_X7_become : (Cond.selects RX7 yX7_become yX7_become) ∈ wsG := ws_t (i := 867) (by decide +kernel) (by decide +kernel)
theorem cd_X7_become : (Cond.code yX7_become cX7_become 3 (some .int)) ∈ wsG := ws_t (i := 868) (by decide +kernel) (by decide +kernel)
theorem ml_X7_162 : (Cond.methodLink RX7 162 yX7_change1) ∈ wsG := ws_t (i := 869) (by decide +kernel) (by decide +kernel)
theorem im_X7_change1 : (Cond.instanceMethod yX7_change1) ∈ wsG := ws_t (i := 871) (by decide +kernel) (by decide +kernel)
theorem sel_X7_change1 : (Cond.selects RX7 yX7_change1 yX7_change1) ∈ wsG := ws_s (i := 56) (by decide +kernel) (by decide +kernel)
theorem cd_X7_change1 : (Cond.code yX7_change1 cX7_change1 4 (some .int)) ∈ wsG := ws_t (i := 872) (by decide +kernel) (by decide +kernel)
theorem ml_L_27 : (Cond.methodLink RL 27 yX6_as) ∈ wsG := ws_t (i := 265) (by decide +kernel) (by decide +kernel)
theorem im_X6_as : (Cond.instanceMethod yX6_as) ∈ wsG := ws_t (i := 266) (by decide +kernel) (by decide +kernel)
theorem sel_X6_as : (Cond.selects RX6 yX6_as yX6_as) ∈ wsG := ws_t (i := 267) (by decide +kernel) (by decide +kernel)
theorem cd_X6_as : (Cond.code yX6_as cX6_as 3 (some .int)) ∈ wsG := ws_t (i := 268) (by decide +kernel) (by decide +kernel)
theorem ml_X6_101 : (Cond.methodLink RX6 101 yX6_isUnder) ∈ wsG := ws_t (i := 269) (by decide +kernel) (by decide +kernel)
theorem st_X6_isUnder : (Cond.static yX6_isUnder) ∈ wsG := ws_t (i := 270) (by decide +kernel) (by decide +kernel)
theorem cd_X6_isUnder : (Cond.code yX6_isUnder cX6_isUnder 4 (some .boolean)) ∈ wsG := ws_t (i := 271) (by decide +kernel) (by decide +kernel)
theorem fl_X6_257 : (Cond.fieldLink RX6 257 "GoingAbout" "ABOVE" "[I") ∈ wsG := ws_t (i := 272) (by decide +kernel) (by decide +kernel)
theorem ml_L_30 : (Cond.methodLink RL 30 yX7_as) ∈ wsG := ws_t (i := 873) (by decide +kernel) (by decide +kernel)
theorem im_X7_as : (Cond.instanceMethod yX7_as) ∈ wsG := ws_t (i := 874) (by decide +kernel) (by decide +kernel)
theorem sel_X7_as : (Cond.selects RX7 yX7_as yX7_as) ∈ wsG := ws_t (i := 875) (by decide +kernel) (by decide +kernel)
theorem cd_X7_as : (Cond.code yX7_as cX7_as 4 (some .int)) ∈ wsG := ws_t (i := 876) (by decide +kernel) (by decide +kernel)
theorem ml_X7_165 : (Cond.methodLink RX7 165 yX7_above) ∈ wsG := ws_t (i := 877) (by decide +kernel) (by decide +kernel)
theorem st_X7_above : (Cond.static yX7_above) ∈ wsG := ws_t (i := 878) (by decide +kernel) (by decide +kernel)
theorem cd_X7_above : (Cond.code yX7_above cX7_above 1 (some .int)) ∈ wsG := ws_t (i := 879) (by decide +kernel) (by decide +kernel)
theorem ml_L_31 : (Cond.methodLink RL 31 yX6_shows) ∈ wsG := ws_t (i := 274) (by decide +kernel) (by decide +kernel)
theorem im_X6_shows : (Cond.instanceMethod yX6_shows) ∈ wsG := ws_t (i := 275) (by decide +kernel) (by decide +kernel)
theorem sel_X6_shows : (Cond.selects RX6 yX6_shows yX6_shows) ∈ wsG := ws_t (i := 276) (by decide +kernel) (by decide +kernel)
theorem cd_X6_shows : (Cond.code yX6_shows cX6_shows 4 (some .int)) ∈ wsG := ws_t (i := 277) (by decide +kernel) (by decide +kernel)
theorem ml_L_34 : (Cond.methodLink RL 34 yX7_shows) ∈ wsG := ws_t (i := 880) (by decide +kernel) (by decide +kernel)
theorem im_X7_shows : (Cond.instanceMethod yX7_shows) ∈ wsG := ws_t (i := 881) (by decide +kernel) (by decide +kernel)
theorem sel_X7_shows : (Cond.selects RX7 yX7_shows yX7_shows) ∈ wsG := ws_t (i := 882) (by decide +kernel) (by decide +kernel)
theorem cd_X7_shows : (Cond.code yX7_shows cX7_shows 3 (some .int)) ∈ wsG := ws_t (i := 883) (by decide +kernel) (by decide +kernel)
theorem ml_L_35 : (Cond.methodLink RL 35 yX6_seems) ∈ wsG := ws_t (i := 278) (by decide +kernel) (by decide +kernel)
theorem im_X6_seems : (Cond.instanceMethod yX6_seems) ∈ wsG := ws_t (i := 279) (by decide +kernel) (by decide +kernel)
theorem sel_X6_seems : (Cond.selects RX6 yX6_seems yX6_seems) ∈ wsG := ws_t (i := 280) (by decide +kernel) (by decide +kernel)
theorem cd_X6_seems : (Cond.code yX6_seems cX6_seems 4 (some .int)) ∈ wsG := ws_t (i := 281) (by decide +kernel) (by decide +kernel)
theorem ml_L_38 : (Cond.methodLink RL 38 yX7_seems) ∈ wsG := ws_t (i := 884) (by decide +kernel) (by decide +kernel)
theorem im_X7_seems : (Cond.instanceMethod yX7_seems) ∈ wsG := ws_t (i := 885) (by decide +kernel) (by decide +kernel)
theorem sel_X7_seems : (Cond.selects RX7 yX7_seems yX7_seems) ∈ wsG := ws_t (i := 886) (by decide +kernel) (by decide +kernel)
theorem cd_X7_seems : (Cond.code yX7_seems cX7_seems 3 (some .int)) ∈ wsG := ws_t (i := 887) (by decide +kernel) (by decide +kernel)
theorem ml_L_39 : (Cond.methodLink RL 39 yX6_taken) ∈ wsG := ws_t (i := 282) (by decide +kernel) (by decide +kernel)
theorem im_X6_taken : (Cond.instanceMethod yX6_taken) ∈ wsG := ws_t (i := 283) (by decide +kernel) (by decide +kernel)
theorem sel_X6_taken : (Cond.selects RX6 yX6_taken yX6_taken) ∈ wsG := ws_t (i := 284) (by decide +kernel) (by decide +kernel)
theorem cd_X6_taken : (Cond.code yX6_taken cX6_taken 4 (some .int)) ∈ wsG := ws_t (i := 285) (by decide +kernel) (by decide +kernel)
theorem im_X4_takenBy : (Cond.instanceMethod yX4_takenBy) ∈ wsG := ws_t (i := 288) (by decide +kernel) (by decide +kernel)
theorem sel_X4_takenBy : (Cond.selects RX4 yX4_takenBy yX4_takenBy) ∈ wsG := ws_s (i := 3) (by decide +kernel) (by decide +kernel)
theorem cd_X4_takenBy : (Cond.code yX4_takenBy cX4_takenBy 5 (some .int)) ∈ wsG := ws_t (i := 289) (by decide +kernel) (by decide +kernel)
theorem ml_X4_99 : (Cond.methodLink RX4 99 yX4_readsOf) ∈ wsG := ws_t (i := 290) (by decide +kernel) (by decide +kernel)
theorem st_X4_readsOf : (Cond.static yX4_readsOf) ∈ wsG := ws_t (i := 291) (by decide +kernel) (by decide +kernel)
theorem cd_X4_readsOf : (Cond.code yX4_readsOf cX4_readsOf 6 (some .int)) ∈ wsG := ws_t (i := 292) (by decide +kernel) (by decide +kernel)
theorem im_X0_gives : (Cond.instanceMethod yX0_gives) ∈ wsG := ws_t (i := 295) (by decide +kernel) (by decide +kernel)
theorem sel_X0_gives : (Cond.selects RX0 yX0_gives yX0_gives) ∈ wsG := ws_s (i := 4) (by decide +kernel) (by decide +kernel)
theorem cd_X0_gives : (Cond.code yX0_gives cX0_gives 7 (some .int)) ∈ wsG := ws_t (i := 296) (by decide +kernel) (by decide +kernel)
theorem fl_X0_31 : (Cond.fieldLink RX0 31 "GoingAbout$Law" "size" "I") ∈ wsG := ws_t (i := 63) (by decide +kernel) (by decide +kernel)
theorem ml_X0_22 : (Cond.methodLink RX0 22 Lib.Math.min.name) ∈ wsG := ws_t (i := 303) (by decide +kernel) (by decide +kernel)
theorem st_mmin : (Cond.static Lib.Math.min.name) ∈ wsG := ws_t (i := 304) (by decide +kernel) (by decide +kernel)
theorem ini_javalangMath : (Cond.initialized "java/lang/Math") ∈ wsG := ws_t (i := 9) (by decide +kernel) (by decide +kernel)
theorem cd_mmin : (Cond.code Lib.Math.min.name Lib.Math.min.code 2 (some .int)) ∈ wsG := ws_t (i := 305) (by decide +kernel) (by decide +kernel)
theorem ml_X0_28 : (Cond.methodLink RX0 28 Lib.Math.max.name) ∈ wsG := ws_t (i := 306) (by decide +kernel) (by decide +kernel)
theorem st_mmax : (Cond.static Lib.Math.max.name) ∈ wsG := ws_t (i := 307) (by decide +kernel) (by decide +kernel)
theorem cd_mmax : (Cond.code Lib.Math.max.name Lib.Math.max.code 2 (some .int)) ∈ wsG := ws_t (i := 308) (by decide +kernel) (by decide +kernel)
theorem ml_X0_40 : (Cond.methodLink RX0 40 yX0_named) ∈ wsG := ws_t (i := 297) (by decide +kernel) (by decide +kernel)
theorem st_X0_named : (Cond.static yX0_named) ∈ wsG := ws_t (i := 298) (by decide +kernel) (by decide +kernel)
theorem cd_X0_named : (Cond.code yX0_named cX0_named 4 (some .int)) ∈ wsG := ws_t (i := 299) (by decide +kernel) (by decide +kernel)
theorem ml_X0_44 : (Cond.methodLink RX0 44 yX0_joined) ∈ wsG := ws_t (i := 300) (by decide +kernel) (by decide +kernel)
theorem st_X0_joined : (Cond.static yX0_joined) ∈ wsG := ws_t (i := 301) (by decide +kernel) (by decide +kernel)
theorem cd_X0_joined : (Cond.code yX0_joined cX0_joined 3 (some .int)) ∈ wsG := ws_t (i := 302) (by decide +kernel) (by decide +kernel)
theorem ml_L_42 : (Cond.methodLink RL 42 yX7_taken) ∈ wsG := ws_t (i := 888) (by decide +kernel) (by decide +kernel)
theorem im_X7_taken : (Cond.instanceMethod yX7_taken) ∈ wsG := ws_t (i := 889) (by decide +kernel) (by decide +kernel)
theorem sel_X7_taken : (Cond.selects RX7 yX7_taken yX7_taken) ∈ wsG := ws_t (i := 890) (by decide +kernel) (by decide +kernel)
theorem cd_X7_taken : (Cond.code yX7_taken cX7_taken 3 (some .int)) ∈ wsG := ws_t (i := 891) (by decide +kernel) (by decide +kernel)
theorem ml_X7_168 : (Cond.methodLink RX7 168 yX7_areTwo) ∈ wsG := ws_t (i := 892) (by decide +kernel) (by decide +kernel)
theorem im_X7_areTwo : (Cond.instanceMethod yX7_areTwo) ∈ wsG := ws_t (i := 894) (by decide +kernel) (by decide +kernel)
theorem sel_X7_areTwo : (Cond.selects RX7 yX7_areTwo yX7_areTwo) ∈ wsG := ws_s (i := 57) (by decide +kernel) (by decide +kernel)
theorem cd_X7_areTwo : (Cond.code yX7_areTwo cX7_areTwo 3 (some .boolean)) ∈ wsG := ws_t (i := 895) (by decide +kernel) (by decide +kernel)
theorem ml_X7_142 : (Cond.methodLink RX7 142 yX7_takes) ∈ wsG := ws_t (i := 896) (by decide +kernel) (by decide +kernel)
theorem im_X7_takes : (Cond.instanceMethod yX7_takes) ∈ wsG := ws_t (i := 898) (by decide +kernel) (by decide +kernel)
theorem sel_X7_takes : (Cond.selects RX7 yX7_takes yX7_takes) ∈ wsG := ws_s (i := 58) (by decide +kernel) (by decide +kernel)
theorem cd_X7_takes : (Cond.code yX7_takes cX7_takes 3 (some .int)) ∈ wsG := ws_t (i := 899) (by decide +kernel) (by decide +kernel)
theorem ml_X7_130 : (Cond.methodLink RX7 130 yX7_readsOf) ∈ wsG := ws_t (i := 900) (by decide +kernel) (by decide +kernel)
theorem im_X7_readsOf : (Cond.instanceMethod yX7_readsOf) ∈ wsG := ws_t (i := 902) (by decide +kernel) (by decide +kernel)
theorem sel_X7_readsOf : (Cond.selects RX7 yX7_readsOf yX7_readsOf) ∈ wsG := ws_s (i := 59) (by decide +kernel) (by decide +kernel)
theorem cd_X7_readsOf : (Cond.code yX7_readsOf cX7_readsOf 5 (some .int)) ∈ wsG := ws_t (i := 903) (by decide +kernel) (by decide +kernel)
theorem ml_X7_133 : (Cond.methodLink RX7 133 yX7_takesTold) ∈ wsG := ws_t (i := 904) (by decide +kernel) (by decide +kernel)
theorem im_X7_takesTold : (Cond.instanceMethod yX7_takesTold) ∈ wsG := ws_t (i := 906) (by decide +kernel) (by decide +kernel)
theorem sel_X7_takesTold : (Cond.selects RX7 yX7_takesTold yX7_takesTold) ∈ wsG := ws_s (i := 60) (by decide +kernel) (by decide +kernel)
theorem cd_X7_takesTold : (Cond.code yX7_takesTold cX7_takesTold 4 (some .int)) ∈ wsG := ws_t (i := 907) (by decide +kernel) (by decide +kernel)
theorem ml_X7_113 : (Cond.methodLink RX7 113 yX7_hasText) ∈ wsG := ws_t (i := 838) (by decide +kernel) (by decide +kernel)
theorem im_X7_hasText : (Cond.instanceMethod yX7_hasText) ∈ wsG := ws_t (i := 840) (by decide +kernel) (by decide +kernel)
theorem sel_X7_hasText : (Cond.selects RX7 yX7_hasText yX7_hasText) ∈ wsG := ws_s (i := 52) (by decide +kernel) (by decide +kernel)
theorem cd_X7_hasText : (Cond.code yX7_hasText cX7_hasText 2 (some .boolean)) ∈ wsG := ws_t (i := 841) (by decide +kernel) (by decide +kernel)
theorem ml_X7_124 : (Cond.methodLink RX7 124 yX7_worked) ∈ wsG := ws_t (i := 908) (by decide +kernel) (by decide +kernel)
theorem im_X7_worked : (Cond.instanceMethod yX7_worked) ∈ wsG := ws_t (i := 910) (by decide +kernel) (by decide +kernel)
theorem sel_X7_worked : (Cond.selects RX7 yX7_worked yX7_worked) ∈ wsG := ws_s (i := 61) (by decide +kernel) (by decide +kernel)
theorem cd_X7_worked : (Cond.code yX7_worked cX7_worked 7 (some .int)) ∈ wsG := ws_t (i := 911) (by decide +kernel) (by decide +kernel)
theorem ml_X7_116 : (Cond.methodLink RX7 116 yX7_joined) ∈ wsG := ws_t (i := 912) (by decide +kernel) (by decide +kernel)
theorem st_X7_joined : (Cond.static yX7_joined) ∈ wsG := ws_t (i := 913) (by decide +kernel) (by decide +kernel)
theorem cd_X7_joined : (Cond.code yX7_joined cX7_joined 3 (some .int)) ∈ wsG := ws_t (i := 914) (by decide +kernel) (by decide +kernel)
theorem ml_X7_127 : (Cond.methodLink RX7 127 yX7_held) ∈ wsG := ws_t (i := 915) (by decide +kernel) (by decide +kernel)
theorem st_X7_held : (Cond.static yX7_held) ∈ wsG := ws_t (i := 916) (by decide +kernel) (by decide +kernel)
theorem cd_X7_held : (Cond.code yX7_held cX7_held 3 (some .int)) ∈ wsG := ws_t (i := 917) (by decide +kernel) (by decide +kernel)
theorem ml_L_43 : (Cond.methodLink RL 43 yX6_call) ∈ wsG := ws_t (i := 309) (by decide +kernel) (by decide +kernel)
theorem im_X6_call : (Cond.instanceMethod yX6_call) ∈ wsG := ws_t (i := 310) (by decide +kernel) (by decide +kernel)
theorem sel_X6_call : (Cond.selects RX6 yX6_call yX6_call) ∈ wsG := ws_t (i := 311) (by decide +kernel) (by decide +kernel)
theorem cd_X6_call : (Cond.code yX6_call cX6_call 3 (some .int)) ∈ wsG := ws_t (i := 312) (by decide +kernel) (by decide +kernel)
theorem im_X4_meet : (Cond.instanceMethod yX4_meet) ∈ wsG := ws_t (i := 315) (by decide +kernel) (by decide +kernel)
theorem sel_X4_meet : (Cond.selects RX4 yX4_meet yX4_meet) ∈ wsG := ws_s (i := 5) (by decide +kernel) (by decide +kernel)
theorem cd_X4_meet : (Cond.code yX4_meet cX4_meet 4 (some .int)) ∈ wsG := ws_t (i := 316) (by decide +kernel) (by decide +kernel)
theorem ml_X4_85 : (Cond.methodLink RX4 85 Lib.Math.max.name) ∈ wsG := ws_t (i := 317) (by decide +kernel) (by decide +kernel)
theorem ml_L_46 : (Cond.methodLink RL 46 yX7_call) ∈ wsG := ws_t (i := 918) (by decide +kernel) (by decide +kernel)
theorem im_X7_call : (Cond.instanceMethod yX7_call) ∈ wsG := ws_t (i := 919) (by decide +kernel) (by decide +kernel)
theorem sel_X7_call : (Cond.selects RX7 yX7_call yX7_call) ∈ wsG := ws_t (i := 920) (by decide +kernel) (by decide +kernel)
theorem cd_X7_call : (Cond.code yX7_call cX7_call 3 (some .int)) ∈ wsG := ws_t (i := 921) (by decide +kernel) (by decide +kernel)
theorem ml_X7_172 : (Cond.methodLink RX7 172 yX7_calls) ∈ wsG := ws_t (i := 922) (by decide +kernel) (by decide +kernel)
theorem im_X7_calls : (Cond.instanceMethod yX7_calls) ∈ wsG := ws_t (i := 924) (by decide +kernel) (by decide +kernel)
theorem sel_X7_calls : (Cond.selects RX7 yX7_calls yX7_calls) ∈ wsG := ws_s (i := 62) (by decide +kernel) (by decide +kernel)
theorem cd_X7_calls : (Cond.code yX7_calls cX7_calls 4 (some .int)) ∈ wsG := ws_t (i := 925) (by decide +kernel) (by decide +kernel)
theorem ml_L_49 : (Cond.methodLink RL 49 yX6_feed) ∈ wsG := ws_t (i := 318) (by decide +kernel) (by decide +kernel)
theorem im_X6_feed : (Cond.instanceMethod yX6_feed) ∈ wsG := ws_t (i := 319) (by decide +kernel) (by decide +kernel)
theorem sel_X6_feed : (Cond.selects RX6 yX6_feed yX6_feed) ∈ wsG := ws_t (i := 320) (by decide +kernel) (by decide +kernel)
theorem cd_X6_feed : (Cond.code yX6_feed cX6_feed 4 (some .int)) ∈ wsG := ws_t (i := 321) (by decide +kernel) (by decide +kernel)
theorem im_X4_record : (Cond.instanceMethod yX4_record) ∈ wsG := ws_t (i := 324) (by decide +kernel) (by decide +kernel)
theorem sel_X4_record : (Cond.selects RX4 yX4_record yX4_record) ∈ wsG := ws_s (i := 6) (by decide +kernel) (by decide +kernel)
theorem cd_X4_record : (Cond.code yX4_record cX4_record 5 (some .int)) ∈ wsG := ws_t (i := 325) (by decide +kernel) (by decide +kernel)
theorem fl_X4_73 : (Cond.fieldLink RX4 73 "GoingAbout$Suburb" "taped" "I") ∈ wsG := ws_t (i := 90) (by decide +kernel) (by decide +kernel)
theorem ml_L_53 : (Cond.methodLink RL 53 yX7_feed) ∈ wsG := ws_t (i := 777) (by decide +kernel) (by decide +kernel)
theorem im_X7_feed : (Cond.instanceMethod yX7_feed) ∈ wsG := ws_t (i := 778) (by decide +kernel) (by decide +kernel)
theorem sel_X7_feed : (Cond.selects RX7 yX7_feed yX7_feed) ∈ wsG := ws_t (i := 779) (by decide +kernel) (by decide +kernel)
theorem cd_X7_feed : (Cond.code yX7_feed cX7_feed 5 (some .int)) ∈ wsG := ws_t (i := 780) (by decide +kernel) (by decide +kernel)
theorem kl_X7_65 : (Cond.constantLong RX7 65 (255)) ∈ wsG := ws_t (i := 789) (by decide +kernel) (by decide +kernel)
theorem ml_L_54 : (Cond.methodLink RL 54 yX6_text) ∈ wsG := ws_t (i := 326) (by decide +kernel) (by decide +kernel)
theorem im_X6_text : (Cond.instanceMethod yX6_text) ∈ wsG := ws_t (i := 327) (by decide +kernel) (by decide +kernel)
theorem sel_X6_text : (Cond.selects RX6 yX6_text yX6_text) ∈ wsG := ws_t (i := 328) (by decide +kernel) (by decide +kernel)
theorem cd_X6_text : (Cond.code yX6_text cX6_text 3 (some .int)) ∈ wsG := ws_t (i := 329) (by decide +kernel) (by decide +kernel)
theorem ml_X6_122 : (Cond.methodLink RX6 122 yX6_isUse) ∈ wsG := ws_t (i := 330) (by decide +kernel) (by decide +kernel)
theorem st_X6_isUse : (Cond.static yX6_isUse) ∈ wsG := ws_t (i := 331) (by decide +kernel) (by decide +kernel)
theorem cd_X6_isUse : (Cond.code yX6_isUse cX6_isUse 1 (some .boolean)) ∈ wsG := ws_t (i := 332) (by decide +kernel) (by decide +kernel)
theorem im_X4_lawOf : (Cond.instanceMethod yX4_lawOf) ∈ wsG := ws_t (i := 335) (by decide +kernel) (by decide +kernel)
theorem sel_X4_lawOf : (Cond.selects RX4 yX4_lawOf yX4_lawOf) ∈ wsG := ws_s (i := 7) (by decide +kernel) (by decide +kernel)
theorem cd_X4_lawOf : (Cond.code yX4_lawOf cX4_lawOf 2 (some (.object "GoingAbout$Law"))) ∈ wsG := ws_t (i := 336) (by decide +kernel) (by decide +kernel)
theorem im_X1_read : (Cond.instanceMethod yX1_read) ∈ wsG := ws_t (i := 339) (by decide +kernel) (by decide +kernel)
theorem sel_X1_read : (Cond.selects RX1 yX1_read yX1_read) ∈ wsG := ws_s (i := 8) (by decide +kernel) (by decide +kernel)
theorem cd_X1_read : (Cond.code yX1_read cX1_read 5 (some .int)) ∈ wsG := ws_t (i := 340) (by decide +kernel) (by decide +kernel)
theorem ml_X1_25 : (Cond.methodLink RX1 25 Lib.Math.min.name) ∈ wsG := ws_t (i := 341) (by decide +kernel) (by decide +kernel)
theorem ml_X1_31 : (Cond.methodLink RX1 31 Lib.Math.max.name) ∈ wsG := ws_t (i := 342) (by decide +kernel) (by decide +kernel)
theorem fl_X1_34 : (Cond.fieldLink RX1 34 "GoingAbout$Reading" "length" "I") ∈ wsG := ws_t (i := 134) (by decide +kernel) (by decide +kernel)
theorem ml_X1_38 : (Cond.methodLink RX1 38 arraycopyName) ∈ wsG := ws_t (i := 343) (by decide +kernel) (by decide +kernel)
theorem nat_copy : (Cond.native arraycopyName) ∈ wsG := ws_t (i := 345) (by decide +kernel) (by decide +kernel)
theorem st_copy : (Cond.static arraycopyName) ∈ wsG := ws_t (i := 344) (by decide +kernel) (by decide +kernel)
theorem ini_javalangSystem : (Cond.initialized "java/lang/System") ∈ wsG := ws_t (i := 10) (by decide +kernel) (by decide +kernel)
theorem fl_X1_46 : (Cond.fieldLink RX1 46 "GoingAbout$Reading" "place" "I") ∈ wsG := ws_t (i := 135) (by decide +kernel) (by decide +kernel)
theorem fl_X1_49 : (Cond.fieldLink RX1 49 "GoingAbout$Reading" "size" "I") ∈ wsG := ws_t (i := 138) (by decide +kernel) (by decide +kernel)
theorem ml_X1_52 : (Cond.methodLink RX1 52 yX1_readLevel) ∈ wsG := ws_t (i := 347) (by decide +kernel) (by decide +kernel)
theorem im_X1_readLevel : (Cond.instanceMethod yX1_readLevel) ∈ wsG := ws_t (i := 349) (by decide +kernel) (by decide +kernel)
theorem sel_X1_readLevel : (Cond.selects RX1 yX1_readLevel yX1_readLevel) ∈ wsG := ws_s (i := 9) (by decide +kernel) (by decide +kernel)
theorem cd_X1_readLevel : (Cond.code yX1_readLevel cX1_readLevel 5 (some .boolean)) ∈ wsG := ws_t (i := 350) (by decide +kernel) (by decide +kernel)
theorem ml_X1_62 : (Cond.methodLink RX1 62 yX1_readInner) ∈ wsG := ws_t (i := 351) (by decide +kernel) (by decide +kernel)
theorem im_X1_readInner : (Cond.instanceMethod yX1_readInner) ∈ wsG := ws_t (i := 353) (by decide +kernel) (by decide +kernel)
theorem sel_X1_readInner : (Cond.selects RX1 yX1_readInner yX1_readInner) ∈ wsG := ws_s (i := 10) (by decide +kernel) (by decide +kernel)
theorem ml_X1_66 : (Cond.methodLink RX1 66 yX1_levelOf) ∈ wsG := ws_t (i := 452) (by decide +kernel) (by decide +kernel)
theorem st_X1_levelOf : (Cond.static yX1_levelOf) ∈ wsG := ws_t (i := 453) (by decide +kernel) (by decide +kernel)
theorem cd_X1_levelOf : (Cond.code yX1_levelOf cX1_levelOf 1 (some .int)) ∈ wsG := ws_t (i := 454) (by decide +kernel) (by decide +kernel)
theorem ml_X1_70 : (Cond.methodLink RX1 70 yX1_step) ∈ wsG := ws_t (i := 362) (by decide +kernel) (by decide +kernel)
theorem im_X1_step : (Cond.instanceMethod yX1_step) ∈ wsG := ws_t (i := 364) (by decide +kernel) (by decide +kernel)
theorem sel_X1_step : (Cond.selects RX1 yX1_step yX1_step) ∈ wsG := ws_s (i := 12) (by decide +kernel) (by decide +kernel)
theorem cd_X1_step : (Cond.code yX1_step cX1_step 2 none) ∈ wsG := ws_t (i := 365) (by decide +kernel) (by decide +kernel)
theorem cd_X1_readInner : (Cond.code yX1_readInner cX1_readInner 5 (some .boolean)) ∈ wsG := ws_t (i := 354) (by decide +kernel) (by decide +kernel)
theorem ml_X1_74 : (Cond.methodLink RX1 74 yX1_isDigit) ∈ wsG := ws_t (i := 355) (by decide +kernel) (by decide +kernel)
theorem st_X1_isDigit : (Cond.static yX1_isDigit) ∈ wsG := ws_t (i := 356) (by decide +kernel) (by decide +kernel)
theorem cd_X1_isDigit : (Cond.code yX1_isDigit cX1_isDigit 1 (some .boolean)) ∈ wsG := ws_t (i := 357) (by decide +kernel) (by decide +kernel)
theorem ml_X1_77 : (Cond.methodLink RX1 77 yX1_readNumber) ∈ wsG := ws_t (i := 358) (by decide +kernel) (by decide +kernel)
theorem im_X1_readNumber : (Cond.instanceMethod yX1_readNumber) ∈ wsG := ws_t (i := 360) (by decide +kernel) (by decide +kernel)
theorem sel_X1_readNumber : (Cond.selects RX1 yX1_readNumber yX1_readNumber) ∈ wsG := ws_s (i := 11) (by decide +kernel) (by decide +kernel)
theorem cd_X1_readNumber : (Cond.code yX1_readNumber cX1_readNumber 3 (some .boolean)) ∈ wsG := ws_t (i := 361) (by decide +kernel) (by decide +kernel)
theorem ml_X1_81 : (Cond.methodLink RX1 81 yJ0_indexOf_0f7a4) ∈ wsG := ws_t (i := 366) (by decide +kernel) (by decide +kernel)
theorem im_J0_indexOf_0f7a4 : (Cond.instanceMethod yJ0_indexOf_0f7a4) ∈ wsG := ws_t (i := 367) (by decide +kernel) (by decide +kernel)
theorem sel_J0_indexOf_0f7a4 : (Cond.selects RJ0 yJ0_indexOf_0f7a4 yJ0_indexOf_0f7a4) ∈ wsG := ws_t (i := 368) (by decide +kernel) (by decide +kernel)
theorem ini_J0 : (Cond.initialized RJ0) ∈ wsG := ws_t (i := 11) (by decide +kernel) (by decide +kernel)
theorem cd_J0_indexOf_0f7a4 : (Cond.code yJ0_indexOf_0f7a4 cJ0_indexOf_0f7a4 2 (some .int)) ∈ wsG := ws_t (i := 369) (by decide +kernel) (by decide +kernel)
theorem ml_J0_633 : (Cond.methodLink RJ0 633 yJ0_indexOf_7cf53) ∈ wsG := ws_t (i := 370) (by decide +kernel) (by decide +kernel)
theorem im_J0_indexOf_7cf53 : (Cond.instanceMethod yJ0_indexOf_7cf53) ∈ wsG := ws_t (i := 371) (by decide +kernel) (by decide +kernel)
theorem sel_J0_indexOf_7cf53 : (Cond.selects RJ0 yJ0_indexOf_7cf53 yJ0_indexOf_7cf53) ∈ wsG := ws_t (i := 372) (by decide +kernel) (by decide +kernel)
theorem cd_J0_indexOf_7cf53 : (Cond.code yJ0_indexOf_7cf53 cJ0_indexOf_7cf53 3 (some .int)) ∈ wsG := ws_t (i := 373) (by decide +kernel) (by decide +kernel)
theorem fl_J0_9 : (Cond.fieldLink RJ0 9 "java/lang/String" "value" "[B") ∈ wsG := ws_t (i := 1141) (by decide +kernel) (by decide +kernel)
theorem ml_J0_492 : (Cond.methodLink RJ0 492 yJ0_isLatin1_aae02) ∈ wsG := ws_t (i := 374) (by decide +kernel) (by decide +kernel)
theorem im_J0_isLatin1_aae02 : (Cond.instanceMethod yJ0_isLatin1_aae02) ∈ wsG := ws_t (i := 375) (by decide +kernel) (by decide +kernel)
theorem sel_J0_isLatin1_aae02 : (Cond.selects RJ0 yJ0_isLatin1_aae02 yJ0_isLatin1_aae02) ∈ wsG := ws_t (i := 376) (by decide +kernel) (by decide +kernel)
theorem cd_J0_isLatin1_aae02 : (Cond.code yJ0_isLatin1_aae02 cJ0_isLatin1_aae02 1 (some .boolean)) ∈ wsG := ws_t (i := 377) (by decide +kernel) (by decide +kernel)
theorem fl_J0_38 : (Cond.fieldLink RJ0 38 "java/lang/String" "COMPACT_STRINGS" "Z") ∈ wsG := ws_t (i := 378) (by decide +kernel) (by decide +kernel)
theorem fl_J0_15 : (Cond.fieldLink RJ0 15 "java/lang/String" "coder" "B") ∈ wsG := ws_t (i := 1140) (by decide +kernel) (by decide +kernel)
theorem ml_J0_505 : (Cond.methodLink RJ0 505 yJ0_length_8abf5) ∈ wsG := ws_t (i := 380) (by decide +kernel) (by decide +kernel)
theorem im_J0_length_8abf5 : (Cond.instanceMethod yJ0_length_8abf5) ∈ wsG := ws_t (i := 381) (by decide +kernel) (by decide +kernel)
theorem sel_J0_length_8abf5 : (Cond.selects RJ0 yJ0_length_8abf5 yJ0_length_8abf5) ∈ wsG := ws_t (i := 382) (by decide +kernel) (by decide +kernel)
theorem cd_J0_length_8abf5 : (Cond.code yJ0_length_8abf5 cJ0_length_8abf5 1 (some .int)) ∈ wsG := ws_t (i := 383) (by decide +kernel) (by decide +kernel)
theorem ml_J0_335 : (Cond.methodLink RJ0 335 yJ0_coder_7d493) ∈ wsG := ws_t (i := 384) (by decide +kernel) (by decide +kernel)
theorem im_J0_coder_7d493 : (Cond.instanceMethod yJ0_coder_7d493) ∈ wsG := ws_t (i := 385) (by decide +kernel) (by decide +kernel)
theorem sel_J0_coder_7d493 : (Cond.selects RJ0 yJ0_coder_7d493 yJ0_coder_7d493) ∈ wsG := ws_t (i := 386) (by decide +kernel) (by decide +kernel)
theorem cd_J0_coder_7d493 : (Cond.code yJ0_coder_7d493 cJ0_coder_7d493 1 (some .byte)) ∈ wsG := ws_t (i := 387) (by decide +kernel) (by decide +kernel)
theorem ml_J0_637 : (Cond.methodLink RJ0 637 yJ1_indexOf_4cfef) ∈ wsG := ws_t (i := 388) (by decide +kernel) (by decide +kernel)
theorem st_J1_indexOf_4cfef : (Cond.static yJ1_indexOf_4cfef) ∈ wsG := ws_t (i := 389) (by decide +kernel) (by decide +kernel)
theorem ini_J1 : (Cond.initialized RJ1) ∈ wsG := ws_t (i := 12) (by decide +kernel) (by decide +kernel)
theorem cd_J1_indexOf_4cfef : (Cond.code yJ1_indexOf_4cfef cJ1_indexOf_4cfef 4 (some .int)) ∈ wsG := ws_t (i := 390) (by decide +kernel) (by decide +kernel)
theorem ml_J1_92 : (Cond.methodLink RJ1 92 Lib.Math.max.name) ∈ wsG := ws_t (i := 394) (by decide +kernel) (by decide +kernel)
theorem ml_J1_38 : (Cond.methodLink RJ1 38 Lib.Math.min.name) ∈ wsG := ws_t (i := 395) (by decide +kernel) (by decide +kernel)
theorem ml_J1_88 : (Cond.methodLink RJ1 88 yJ1_canEncode_9a6ad) ∈ wsG := ws_t (i := 391) (by decide +kernel) (by decide +kernel)
theorem st_J1_canEncode_9a6ad : (Cond.static yJ1_canEncode_9a6ad) ∈ wsG := ws_t (i := 392) (by decide +kernel) (by decide +kernel)
theorem cd_J1_canEncode_9a6ad : (Cond.code yJ1_canEncode_9a6ad cJ1_canEncode_9a6ad 1 (some .boolean)) ∈ wsG := ws_t (i := 393) (by decide +kernel) (by decide +kernel)
theorem ml_J1_95 : (Cond.methodLink RJ1 95 yJ1_indexOfChar_4cfef) ∈ wsG := ws_t (i := 396) (by decide +kernel) (by decide +kernel)
theorem st_J1_indexOfChar_4cfef : (Cond.static yJ1_indexOfChar_4cfef) ∈ wsG := ws_t (i := 397) (by decide +kernel) (by decide +kernel)
theorem cd_J1_indexOfChar_4cfef : (Cond.code yJ1_indexOfChar_4cfef cJ1_indexOfChar_4cfef 6 (some .int)) ∈ wsG := ws_t (i := 398) (by decide +kernel) (by decide +kernel)
theorem ml_J0_640 : (Cond.methodLink RJ0 640 yJ2_indexOf_4cfef) ∈ wsG := ws_t (i := 399) (by decide +kernel) (by decide +kernel)
theorem st_J2_indexOf_4cfef : (Cond.static yJ2_indexOf_4cfef) ∈ wsG := ws_t (i := 400) (by decide +kernel) (by decide +kernel)
theorem ini_J2 : (Cond.initialized RJ2) ∈ wsG := ws_t (i := 13) (by decide +kernel) (by decide +kernel)
theorem cd_J2_indexOf_4cfef : (Cond.code yJ2_indexOf_4cfef cJ2_indexOf_4cfef 4 (some .int)) ∈ wsG := ws_t (i := 401) (by decide +kernel) (by decide +kernel)
theorem ml_J2_224 : (Cond.methodLink RJ2 224 Lib.Math.max.name) ∈ wsG := ws_t (i := 402) (by decide +kernel) (by decide +kernel)
theorem ml_J2_183 : (Cond.methodLink RJ2 183 Lib.Math.min.name) ∈ wsG := ws_t (i := 403) (by decide +kernel) (by decide +kernel)
theorem kc_J2_227 : (Cond.constant RJ2 227 (65536)) ∈ wsG := ws_t (i := 404) (by decide +kernel) (by decide +kernel)
theorem ml_J2_228 : (Cond.methodLink RJ2 228 yJ2_indexOfChar_4cfef) ∈ wsG := ws_t (i := 405) (by decide +kernel) (by decide +kernel)
theorem st_J2_indexOfChar_4cfef : (Cond.static yJ2_indexOfChar_4cfef) ∈ wsG := ws_t (i := 406) (by decide +kernel) (by decide +kernel)
theorem cd_J2_indexOfChar_4cfef : (Cond.code yJ2_indexOfChar_4cfef cJ2_indexOfChar_4cfef 4 (some .int)) ∈ wsG := ws_t (i := 407) (by decide +kernel) (by decide +kernel)
theorem ml_J2_96 : (Cond.methodLink RJ2 96 yJ2_checkBoundsBeginEnd_d044e) ∈ wsG := ws_t (i := 408) (by decide +kernel) (by decide +kernel)
theorem st_J2_checkBoundsBeginEnd_d044e : (Cond.static yJ2_checkBoundsBeginEnd_d044e) ∈ wsG := ws_t (i := 409) (by decide +kernel) (by decide +kernel)
theorem cd_J2_checkBoundsBeginEnd_d044e : (Cond.code yJ2_checkBoundsBeginEnd_d044e cJ2_checkBoundsBeginEnd_d044e 3 none) ∈ wsG := ws_t (i := 410) (by decide +kernel) (by decide +kernel)
theorem ml_J2_48 : (Cond.methodLink RJ2 48 yJ2_length_9d52b) ∈ wsG := ws_t (i := 411) (by decide +kernel) (by decide +kernel)
theorem st_J2_length_9d52b : (Cond.static yJ2_length_9d52b) ∈ wsG := ws_t (i := 412) (by decide +kernel) (by decide +kernel)
theorem cd_J2_length_9d52b : (Cond.code yJ2_length_9d52b cJ2_length_9d52b 1 (some .int)) ∈ wsG := ws_t (i := 413) (by decide +kernel) (by decide +kernel)
theorem ml_J2_241 : (Cond.methodLink RJ2 241 yJ0_checkBoundsBeginEnd_23922) ∈ wsG := ws_t (i := 414) (by decide +kernel) (by decide +kernel)
theorem st_J0_checkBoundsBeginEnd_23922 : (Cond.static yJ0_checkBoundsBeginEnd_23922) ∈ wsG := ws_t (i := 415) (by decide +kernel) (by decide +kernel)
theorem cd_J0_checkBoundsBeginEnd_23922 : (Cond.code yJ0_checkBoundsBeginEnd_23922 cJ0_checkBoundsBeginEnd_23922 3 none) ∈ wsG := ws_t (i := 416) (by decide +kernel) (by decide +kernel)
theorem fl_J0_1053 : (Cond.fieldLink RJ0 1053 "jdk/internal/util/Preconditions" "SIOOBE_FORMATTER" "Ljava/util/function/BiFunction;") ∈ wsG := ws_t (i := 417) (by decide +kernel) (by decide +kernel)
theorem ml_J0_1062 : (Cond.methodLink RJ0 1062 yJ3_checkFromToIndex_8c36e) ∈ wsG := ws_t (i := 419) (by decide +kernel) (by decide +kernel)
theorem st_J3_checkFromToIndex_8c36e : (Cond.static yJ3_checkFromToIndex_8c36e) ∈ wsG := ws_t (i := 420) (by decide +kernel) (by decide +kernel)
theorem ini_J3 : (Cond.initialized RJ3) ∈ wsG := ws_t (i := 14) (by decide +kernel) (by decide +kernel)
theorem cd_J3_checkFromToIndex_8c36e : (Cond.code yJ3_checkFromToIndex_8c36e cJ3_checkFromToIndex_8c36e 4 (some .int)) ∈ wsG := ws_t (i := 421) (by decide +kernel) (by decide +kernel)
theorem ml_J2_244 : (Cond.methodLink RJ2 244 yJ2_indexOfCharUnsafe_4cfef) ∈ wsG := ws_t (i := 422) (by decide +kernel) (by decide +kernel)
theorem st_J2_indexOfCharUnsafe_4cfef : (Cond.static yJ2_indexOfCharUnsafe_4cfef) ∈ wsG := ws_t (i := 423) (by decide +kernel) (by decide +kernel)
theorem cd_J2_indexOfCharUnsafe_4cfef : (Cond.code yJ2_indexOfCharUnsafe_4cfef cJ2_indexOfCharUnsafe_4cfef 5 (some .int)) ∈ wsG := ws_t (i := 424) (by decide +kernel) (by decide +kernel)
theorem ml_J2_71 : (Cond.methodLink RJ2 71 yJ2_getChar_3b067) ∈ wsG := ws_t (i := 425) (by decide +kernel) (by decide +kernel)
theorem st_J2_getChar_3b067 : (Cond.static yJ2_getChar_3b067) ∈ wsG := ws_t (i := 426) (by decide +kernel) (by decide +kernel)
theorem cd_J2_getChar_3b067 : (Cond.code yJ2_getChar_3b067 cJ2_getChar_3b067 2 (some .char)) ∈ wsG := ws_t (i := 427) (by decide +kernel) (by decide +kernel)
theorem fl_J2_44 : (Cond.fieldLink RJ2 44 "java/lang/StringUTF16" "$assertionsDisabled" "Z") ∈ wsG := ws_t (i := 428) (by decide +kernel) (by decide +kernel)
theorem fl_J2_59 : (Cond.fieldLink RJ2 59 "java/lang/StringUTF16" "HI_BYTE_SHIFT" "I") ∈ wsG := ws_t (i := 430) (by decide +kernel) (by decide +kernel)
theorem fl_J2_63 : (Cond.fieldLink RJ2 63 "java/lang/StringUTF16" "LO_BYTE_SHIFT" "I") ∈ wsG := ws_t (i := 432) (by decide +kernel) (by decide +kernel)
theorem ml_J2_232 : (Cond.methodLink RJ2 232 yJ2_indexOfSupplementary_4cfef) ∈ wsG := ws_t (i := 434) (by decide +kernel) (by decide +kernel)
theorem st_J2_indexOfSupplementary_4cfef : (Cond.static yJ2_indexOfSupplementary_4cfef) ∈ wsG := ws_t (i := 435) (by decide +kernel) (by decide +kernel)
theorem cd_J2_indexOfSupplementary_4cfef : (Cond.code yJ2_indexOfSupplementary_4cfef cJ2_indexOfSupplementary_4cfef 7 (some .int)) ∈ wsG := ws_t (i := 436) (by decide +kernel) (by decide +kernel)
theorem ml_J2_164 : (Cond.methodLink RJ2 164 yJ11_isValidCodePoint_9a6ad) ∈ wsG := ws_t (i := 437) (by decide +kernel) (by decide +kernel)
theorem st_J11_isValidCodePoint_9a6ad : (Cond.static yJ11_isValidCodePoint_9a6ad) ∈ wsG := ws_t (i := 438) (by decide +kernel) (by decide +kernel)
theorem ini_J11 : (Cond.initialized RJ11) ∈ wsG := ws_t (i := 15) (by decide +kernel) (by decide +kernel)
theorem cd_J11_isValidCodePoint_9a6ad : (Cond.code yJ11_isValidCodePoint_9a6ad cJ11_isValidCodePoint_9a6ad 2 (some .boolean)) ∈ wsG := ws_t (i := 439) (by decide +kernel) (by decide +kernel)
theorem ml_J2_157 : (Cond.methodLink RJ2 157 yJ11_highSurrogate_5068e) ∈ wsG := ws_t (i := 440) (by decide +kernel) (by decide +kernel)
theorem st_J11_highSurrogate_5068e : (Cond.static yJ11_highSurrogate_5068e) ∈ wsG := ws_t (i := 441) (by decide +kernel) (by decide +kernel)
theorem cd_J11_highSurrogate_5068e : (Cond.code yJ11_highSurrogate_5068e cJ11_highSurrogate_5068e 1 (some .char)) ∈ wsG := ws_t (i := 442) (by decide +kernel) (by decide +kernel)
theorem kc_J11_110 : (Cond.constant RJ11 110 (55232)) ∈ wsG := ws_t (i := 443) (by decide +kernel) (by decide +kernel)
theorem ml_J2_161 : (Cond.methodLink RJ2 161 yJ11_lowSurrogate_5068e) ∈ wsG := ws_t (i := 444) (by decide +kernel) (by decide +kernel)
theorem st_J11_lowSurrogate_5068e : (Cond.static yJ11_lowSurrogate_5068e) ∈ wsG := ws_t (i := 445) (by decide +kernel) (by decide +kernel)
theorem cd_J11_lowSurrogate_5068e : (Cond.code yJ11_lowSurrogate_5068e cJ11_lowSurrogate_5068e 1 (some .char)) ∈ wsG := ws_t (i := 446) (by decide +kernel) (by decide +kernel)
theorem kc_J11_76 : (Cond.constant RJ11 76 (56320)) ∈ wsG := ws_t (i := 447) (by decide +kernel) (by decide +kernel)
theorem ml_X1_86 : (Cond.methodLink RX1 86 yX1_readClosing) ∈ wsG := ws_t (i := 448) (by decide +kernel) (by decide +kernel)
theorem im_X1_readClosing : (Cond.instanceMethod yX1_readClosing) ∈ wsG := ws_t (i := 450) (by decide +kernel) (by decide +kernel)
theorem sel_X1_readClosing : (Cond.selects RX1 yX1_readClosing yX1_readClosing) ∈ wsG := ws_s (i := 13) (by decide +kernel) (by decide +kernel)
theorem cd_X1_readClosing : (Cond.code yX1_readClosing cX1_readClosing 1 (some .boolean)) ∈ wsG := ws_t (i := 451) (by decide +kernel) (by decide +kernel)
theorem im_X0_copy : (Cond.instanceMethod yX0_copy) ∈ wsG := ws_t (i := 457) (by decide +kernel) (by decide +kernel)
theorem sel_X0_copy : (Cond.selects RX0 yX0_copy yX0_copy) ∈ wsG := ws_s (i := 14) (by decide +kernel) (by decide +kernel)
theorem cd_X0_copy : (Cond.code yX0_copy cX0_copy 3 none) ∈ wsG := ws_t (i := 458) (by decide +kernel) (by decide +kernel)
theorem ml_X0_34 : (Cond.methodLink RX0 34 arraycopyName) ∈ wsG := ws_t (i := 459) (by decide +kernel) (by decide +kernel)
theorem ml_L_58 : (Cond.methodLink RL 58 yX7_text) ∈ wsG := ws_t (i := 790) (by decide +kernel) (by decide +kernel)
theorem im_X7_text : (Cond.instanceMethod yX7_text) ∈ wsG := ws_t (i := 791) (by decide +kernel) (by decide +kernel)
theorem sel_X7_text : (Cond.selects RX7 yX7_text yX7_text) ∈ wsG := ws_t (i := 792) (by decide +kernel) (by decide +kernel)
theorem cd_X7_text : (Cond.code yX7_text cX7_text 5 (some .int)) ∈ wsG := ws_t (i := 793) (by decide +kernel) (by decide +kernel)
theorem fl_X7_71 : (Cond.fieldLink RX7 71 "GoingAboutModel" "use" "I") ∈ wsG := ws_t (i := 718) (by decide +kernel) (by decide +kernel)
theorem fl_X7_67 : (Cond.fieldLink RX7 67 "GoingAboutModel" "at" "I") ∈ wsG := ws_t (i := 715) (by decide +kernel) (by decide +kernel)
theorem fl_X7_101 : (Cond.fieldLink RX7 101 "GoingAboutModel" "open" "I") ∈ wsG := ws_t (i := 716) (by decide +kernel) (by decide +kernel)
theorem fl_X7_74 : (Cond.fieldLink RX7 74 "GoingAboutModel" "steps" "I") ∈ wsG := ws_t (i := 717) (by decide +kernel) (by decide +kernel)
theorem ml_X7_110 : (Cond.methodLink RX7 110 yX7_whole) ∈ wsG := ws_t (i := 794) (by decide +kernel) (by decide +kernel)
theorem im_X7_whole : (Cond.instanceMethod yX7_whole) ∈ wsG := ws_t (i := 796) (by decide +kernel) (by decide +kernel)
theorem sel_X7_whole : (Cond.selects RX7 yX7_whole yX7_whole) ∈ wsG := ws_s (i := 42) (by decide +kernel) (by decide +kernel)
theorem cd_X7_whole : (Cond.code yX7_whole cX7_whole 1 (some .boolean)) ∈ wsG := ws_t (i := 797) (by decide +kernel) (by decide +kernel)
theorem ml_X7_77 : (Cond.methodLink RX7 77 yX7_both) ∈ wsG := ws_t (i := 798) (by decide +kernel) (by decide +kernel)
theorem im_X7_both : (Cond.instanceMethod yX7_both) ∈ wsG := ws_t (i := 800) (by decide +kernel) (by decide +kernel)
theorem sel_X7_both : (Cond.selects RX7 yX7_both yX7_both) ∈ wsG := ws_s (i := 43) (by decide +kernel) (by decide +kernel)
theorem ml_X7_81 : (Cond.methodLink RX7 81 yX7_look) ∈ wsG := ws_t (i := 818) (by decide +kernel) (by decide +kernel)
theorem im_X7_look : (Cond.instanceMethod yX7_look) ∈ wsG := ws_t (i := 820) (by decide +kernel) (by decide +kernel)
theorem sel_X7_look : (Cond.selects RX7 yX7_look yX7_look) ∈ wsG := ws_s (i := 48) (by decide +kernel) (by decide +kernel)
theorem cd_X7_look : (Cond.code yX7_look cX7_look 1 (some .int)) ∈ wsG := ws_t (i := 821) (by decide +kernel) (by decide +kernel)
theorem ml_X7_85 : (Cond.methodLink RX7 85 yX7_step1) ∈ wsG := ws_t (i := 826) (by decide +kernel) (by decide +kernel)
theorem im_X7_step1 : (Cond.instanceMethod yX7_step1) ∈ wsG := ws_t (i := 828) (by decide +kernel) (by decide +kernel)
theorem sel_X7_step1 : (Cond.selects RX7 yX7_step1 yX7_step1) ∈ wsG := ws_s (i := 50) (by decide +kernel) (by decide +kernel)
theorem cd_X7_step1 : (Cond.code yX7_step1 cX7_step1 3 none) ∈ wsG := ws_t (i := 829) (by decide +kernel) (by decide +kernel)
theorem cd_X7_both : (Cond.code yX7_both cX7_both 1 (some .boolean)) ∈ wsG := ws_t (i := 801) (by decide +kernel) (by decide +kernel)
theorem ml_X7_89 : (Cond.methodLink RX7 89 yX7_compared) ∈ wsG := ws_t (i := 802) (by decide +kernel) (by decide +kernel)
theorem im_X7_compared : (Cond.instanceMethod yX7_compared) ∈ wsG := ws_t (i := 804) (by decide +kernel) (by decide +kernel)
theorem sel_X7_compared : (Cond.selects RX7 yX7_compared yX7_compared) ∈ wsG := ws_s (i := 44) (by decide +kernel) (by decide +kernel)
theorem cd_X7_compared : (Cond.code yX7_compared cX7_compared 2 (some .boolean)) ∈ wsG := ws_t (i := 805) (by decide +kernel) (by decide +kernel)
theorem ml_X7_92 : (Cond.methodLink RX7 92 yX7_sum) ∈ wsG := ws_t (i := 806) (by decide +kernel) (by decide +kernel)
theorem im_X7_sum : (Cond.instanceMethod yX7_sum) ∈ wsG := ws_t (i := 808) (by decide +kernel) (by decide +kernel)
theorem sel_X7_sum : (Cond.selects RX7 yX7_sum yX7_sum) ∈ wsG := ws_s (i := 45) (by decide +kernel) (by decide +kernel)
theorem cd_X7_one : (Cond.code yX7_one cX7_one 4 (some .boolean)) ∈ wsG := ws_t (i := 817) (by decide +kernel) (by decide +kernel)
theorem ml_X7_104 : (Cond.methodLink RX7 104 yX7_isName) ∈ wsG := ws_t (i := 822) (by decide +kernel) (by decide +kernel)
theorem im_X7_isName : (Cond.instanceMethod yX7_isName) ∈ wsG := ws_t (i := 824) (by decide +kernel) (by decide +kernel)
theorem sel_X7_isName : (Cond.selects RX7 yX7_isName yX7_isName) ∈ wsG := ws_s (i := 49) (by decide +kernel) (by decide +kernel)
theorem cd_X7_isName : (Cond.code yX7_isName cX7_isName 2 (some .boolean)) ∈ wsG := ws_t (i := 825) (by decide +kernel) (by decide +kernel)
theorem ml_X7_107 : (Cond.methodLink RX7 107 yX7_opens) ∈ wsG := ws_t (i := 830) (by decide +kernel) (by decide +kernel)
theorem im_X7_opens : (Cond.instanceMethod yX7_opens) ∈ wsG := ws_t (i := 832) (by decide +kernel) (by decide +kernel)
theorem sel_X7_opens : (Cond.selects RX7 yX7_opens yX7_opens) ∈ wsG := ws_s (i := 51) (by decide +kernel) (by decide +kernel)
theorem cd_X7_opens : (Cond.code yX7_opens cX7_opens 1 (some .boolean)) ∈ wsG := ws_t (i := 833) (by decide +kernel) (by decide +kernel)
theorem ml_X7_98 : (Cond.methodLink RX7 98 yX7_one) ∈ wsG := ws_t (i := 814) (by decide +kernel) (by decide +kernel)
theorem im_X7_one : (Cond.instanceMethod yX7_one) ∈ wsG := ws_t (i := 816) (by decide +kernel) (by decide +kernel)
theorem sel_X7_one : (Cond.selects RX7 yX7_one yX7_one) ∈ wsG := ws_s (i := 47) (by decide +kernel) (by decide +kernel)
theorem cd_X7_product : (Cond.code yX7_product cX7_product 2 (some .boolean)) ∈ wsG := ws_t (i := 813) (by decide +kernel) (by decide +kernel)
theorem cd_X7_sum : (Cond.code yX7_sum cX7_sum 2 (some .boolean)) ∈ wsG := ws_t (i := 809) (by decide +kernel) (by decide +kernel)
theorem ml_X7_95 : (Cond.methodLink RX7 95 yX7_product) ∈ wsG := ws_t (i := 810) (by decide +kernel) (by decide +kernel)
theorem im_X7_product : (Cond.instanceMethod yX7_product) ∈ wsG := ws_t (i := 812) (by decide +kernel) (by decide +kernel)
theorem sel_X7_product : (Cond.selects RX7 yX7_product yX7_product) ∈ wsG := ws_s (i := 46) (by decide +kernel) (by decide +kernel)
theorem ml_L_59 : (Cond.methodLink RL 59 yX6_untell) ∈ wsG := ws_t (i := 460) (by decide +kernel) (by decide +kernel)
theorem im_X6_untell : (Cond.instanceMethod yX6_untell) ∈ wsG := ws_t (i := 461) (by decide +kernel) (by decide +kernel)
theorem sel_X6_untell : (Cond.selects RX6 yX6_untell yX6_untell) ∈ wsG := ws_t (i := 462) (by decide +kernel) (by decide +kernel)
theorem cd_X6_untell : (Cond.code yX6_untell cX6_untell 4 (some .int)) ∈ wsG := ws_t (i := 463) (by decide +kernel) (by decide +kernel)
theorem ml_L_62 : (Cond.methodLink RL 62 yX7_untell) ∈ wsG := ws_t (i := 834) (by decide +kernel) (by decide +kernel)
theorem im_X7_untell : (Cond.instanceMethod yX7_untell) ∈ wsG := ws_t (i := 835) (by decide +kernel) (by decide +kernel)
theorem sel_X7_untell : (Cond.selects RX7 yX7_untell yX7_untell) ∈ wsG := ws_t (i := 836) (by decide +kernel) (by decide +kernel)
theorem cd_X7_untell : (Cond.code yX7_untell cX7_untell 3 (some .int)) ∈ wsG := ws_t (i := 837) (by decide +kernel) (by decide +kernel)
theorem ml_L_63 : (Cond.methodLink RL 63 yX6_law) ∈ wsG := ws_t (i := 464) (by decide +kernel) (by decide +kernel)
theorem im_X6_law : (Cond.instanceMethod yX6_law) ∈ wsG := ws_t (i := 465) (by decide +kernel) (by decide +kernel)
theorem sel_X6_law : (Cond.selects RX6 yX6_law yX6_law) ∈ wsG := ws_t (i := 466) (by decide +kernel) (by decide +kernel)
theorem cd_X6_law : (Cond.code yX6_law cX6_law 5 (some .int)) ∈ wsG := ws_t (i := 467) (by decide +kernel) (by decide +kernel)
theorem ml_L_67 : (Cond.methodLink RL 67 yX7_law) ∈ wsG := ws_t (i := 926) (by decide +kernel) (by decide +kernel)
theorem im_X7_law : (Cond.instanceMethod yX7_law) ∈ wsG := ws_t (i := 927) (by decide +kernel) (by decide +kernel)
theorem sel_X7_law : (Cond.selects RX7 yX7_law yX7_law) ∈ wsG := ws_t (i := 928) (by decide +kernel) (by decide +kernel)
theorem cd_X7_law : (Cond.code yX7_law cX7_law 5 (some .int)) ∈ wsG := ws_t (i := 929) (by decide +kernel) (by decide +kernel)
theorem ml_X7_139 : (Cond.methodLink RX7 139 yX7_signTold) ∈ wsG := ws_t (i := 930) (by decide +kernel) (by decide +kernel)
theorem im_X7_signTold : (Cond.instanceMethod yX7_signTold) ∈ wsG := ws_t (i := 932) (by decide +kernel) (by decide +kernel)
theorem sel_X7_signTold : (Cond.selects RX7 yX7_signTold yX7_signTold) ∈ wsG := ws_s (i := 63) (by decide +kernel) (by decide +kernel)
theorem cd_X7_signTold : (Cond.code yX7_signTold cX7_signTold 4 (some .int)) ∈ wsG := ws_t (i := 933) (by decide +kernel) (by decide +kernel)
theorem ml_L_68 : (Cond.methodLink RL 68 yX6_days) ∈ wsG := ws_t (i := 469) (by decide +kernel) (by decide +kernel)
theorem im_X6_days : (Cond.instanceMethod yX6_days) ∈ wsG := ws_t (i := 470) (by decide +kernel) (by decide +kernel)
theorem sel_X6_days : (Cond.selects RX6 yX6_days yX6_days) ∈ wsG := ws_t (i := 471) (by decide +kernel) (by decide +kernel)
theorem cd_X6_days : (Cond.code yX6_days cX6_days 3 (some .int)) ∈ wsG := ws_t (i := 472) (by decide +kernel) (by decide +kernel)
theorem im_X4_pass : (Cond.instanceMethod yX4_pass) ∈ wsG := ws_t (i := 475) (by decide +kernel) (by decide +kernel)
theorem sel_X4_pass : (Cond.selects RX4 yX4_pass yX4_pass) ∈ wsG := ws_s (i := 15) (by decide +kernel) (by decide +kernel)
theorem cd_X4_pass : (Cond.code yX4_pass cX4_pass 6 (some .boolean)) ∈ wsG := ws_t (i := 476) (by decide +kernel) (by decide +kernel)
theorem ml_X4_117 : (Cond.methodLink RX4 117 yX4_nearAfter) ∈ wsG := ws_t (i := 477) (by decide +kernel) (by decide +kernel)
theorem im_X4_nearAfter : (Cond.instanceMethod yX4_nearAfter) ∈ wsG := ws_t (i := 479) (by decide +kernel) (by decide +kernel)
theorem sel_X4_nearAfter : (Cond.selects RX4 yX4_nearAfter yX4_nearAfter) ∈ wsG := ws_s (i := 16) (by decide +kernel) (by decide +kernel)
theorem cd_X4_nearAfter : (Cond.code yX4_nearAfter cX4_nearAfter 5 (some .int)) ∈ wsG := ws_t (i := 480) (by decide +kernel) (by decide +kernel)
theorem ml_X4_114 : (Cond.methodLink RX4 114 yX4_takenBy) ∈ wsG := ws_t (i := 481) (by decide +kernel) (by decide +kernel)
theorem ml_X4_121 : (Cond.methodLink RX4 121 yX4_signOf) ∈ wsG := ws_t (i := 482) (by decide +kernel) (by decide +kernel)
theorem im_X4_signOf : (Cond.instanceMethod yX4_signOf) ∈ wsG := ws_t (i := 484) (by decide +kernel) (by decide +kernel)
theorem sel_X4_signOf : (Cond.selects RX4 yX4_signOf yX4_signOf) ∈ wsG := ws_s (i := 17) (by decide +kernel) (by decide +kernel)
theorem cd_X4_signOf : (Cond.code yX4_signOf cX4_signOf 4 (some .int)) ∈ wsG := ws_t (i := 485) (by decide +kernel) (by decide +kernel)
theorem ml_X4_110 : (Cond.methodLink RX4 110 yX4_tellsOf) ∈ wsG := ws_t (i := 486) (by decide +kernel) (by decide +kernel)
theorem st_X4_tellsOf : (Cond.static yX4_tellsOf) ∈ wsG := ws_t (i := 487) (by decide +kernel) (by decide +kernel)
theorem cd_X4_tellsOf : (Cond.code yX4_tellsOf cX4_tellsOf 5 (some .int)) ∈ wsG := ws_t (i := 488) (by decide +kernel) (by decide +kernel)
theorem ml_L_71 : (Cond.methodLink RL 71 yX7_days) ∈ wsG := ws_t (i := 934) (by decide +kernel) (by decide +kernel)
theorem im_X7_days : (Cond.instanceMethod yX7_days) ∈ wsG := ws_t (i := 935) (by decide +kernel) (by decide +kernel)
theorem sel_X7_days : (Cond.selects RX7 yX7_days yX7_days) ∈ wsG := ws_t (i := 936) (by decide +kernel) (by decide +kernel)
theorem cd_X7_days : (Cond.code yX7_days cX7_days 3 (some .int)) ∈ wsG := ws_t (i := 937) (by decide +kernel) (by decide +kernel)
theorem ml_X7_175 : (Cond.methodLink RX7 175 yX7_whyNot) ∈ wsG := ws_t (i := 938) (by decide +kernel) (by decide +kernel)
theorem im_X7_whyNot : (Cond.instanceMethod yX7_whyNot) ∈ wsG := ws_t (i := 940) (by decide +kernel) (by decide +kernel)
theorem sel_X7_whyNot : (Cond.selects RX7 yX7_whyNot yX7_whyNot) ∈ wsG := ws_s (i := 64) (by decide +kernel) (by decide +kernel)
theorem cd_X7_whyNot : (Cond.code yX7_whyNot cX7_whyNot 3 (some .int)) ∈ wsG := ws_t (i := 941) (by decide +kernel) (by decide +kernel)
theorem ml_X7_178 : (Cond.methodLink RX7 178 yX7_goes) ∈ wsG := ws_t (i := 942) (by decide +kernel) (by decide +kernel)
theorem im_X7_goes : (Cond.instanceMethod yX7_goes) ∈ wsG := ws_t (i := 944) (by decide +kernel) (by decide +kernel)
theorem sel_X7_goes : (Cond.selects RX7 yX7_goes yX7_goes) ∈ wsG := ws_s (i := 65) (by decide +kernel) (by decide +kernel)
theorem cd_X7_goes : (Cond.code yX7_goes cX7_goes 3 none) ∈ wsG := ws_t (i := 945) (by decide +kernel) (by decide +kernel)
theorem ml_X7_155 : (Cond.methodLink RX7 155 yX7_aDay) ∈ wsG := ws_t (i := 946) (by decide +kernel) (by decide +kernel)
theorem im_X7_aDay : (Cond.instanceMethod yX7_aDay) ∈ wsG := ws_t (i := 948) (by decide +kernel) (by decide +kernel)
theorem sel_X7_aDay : (Cond.selects RX7 yX7_aDay yX7_aDay) ∈ wsG := ws_s (i := 66) (by decide +kernel) (by decide +kernel)
theorem cd_X7_aDay : (Cond.code yX7_aDay cX7_aDay 2 none) ∈ wsG := ws_t (i := 949) (by decide +kernel) (by decide +kernel)
theorem ml_X7_148 : (Cond.methodLink RX7 148 yX7_findThen) ∈ wsG := ws_t (i := 950) (by decide +kernel) (by decide +kernel)
theorem im_X7_findThen : (Cond.instanceMethod yX7_findThen) ∈ wsG := ws_t (i := 952) (by decide +kernel) (by decide +kernel)
theorem sel_X7_findThen : (Cond.selects RX7 yX7_findThen yX7_findThen) ∈ wsG := ws_s (i := 67) (by decide +kernel) (by decide +kernel)
theorem cd_X7_findThen : (Cond.code yX7_findThen cX7_findThen 4 none) ∈ wsG := ws_t (i := 953) (by decide +kernel) (by decide +kernel)
theorem ml_X7_145 : (Cond.methodLink RX7 145 yX7_signOf) ∈ wsG := ws_t (i := 954) (by decide +kernel) (by decide +kernel)
theorem im_X7_signOf : (Cond.instanceMethod yX7_signOf) ∈ wsG := ws_t (i := 956) (by decide +kernel) (by decide +kernel)
theorem sel_X7_signOf : (Cond.selects RX7 yX7_signOf yX7_signOf) ∈ wsG := ws_s (i := 68) (by decide +kernel) (by decide +kernel)
theorem cd_X7_signOf : (Cond.code yX7_signOf cX7_signOf 2 (some .int)) ∈ wsG := ws_t (i := 957) (by decide +kernel) (by decide +kernel)
theorem ml_X7_136 : (Cond.methodLink RX7 136 yX7_tellsOf) ∈ wsG := ws_t (i := 958) (by decide +kernel) (by decide +kernel)
theorem im_X7_tellsOf : (Cond.instanceMethod yX7_tellsOf) ∈ wsG := ws_t (i := 960) (by decide +kernel) (by decide +kernel)
theorem sel_X7_tellsOf : (Cond.selects RX7 yX7_tellsOf yX7_tellsOf) ∈ wsG := ws_s (i := 69) (by decide +kernel) (by decide +kernel)
theorem cd_X7_tellsOf : (Cond.code yX7_tellsOf cX7_tellsOf 4 (some .int)) ∈ wsG := ws_t (i := 961) (by decide +kernel) (by decide +kernel)
theorem ml_L_72 : (Cond.methodLink RL 72 yX6_loose) ∈ wsG := ws_t (i := 489) (by decide +kernel) (by decide +kernel)
theorem im_X6_loose : (Cond.instanceMethod yX6_loose) ∈ wsG := ws_t (i := 490) (by decide +kernel) (by decide +kernel)
theorem sel_X6_loose : (Cond.selects RX6 yX6_loose yX6_loose) ∈ wsG := ws_t (i := 491) (by decide +kernel) (by decide +kernel)
theorem cd_X6_loose : (Cond.code yX6_loose cX6_loose 3 (some .int)) ∈ wsG := ws_t (i := 492) (by decide +kernel) (by decide +kernel)
theorem im_X4_drawMoves : (Cond.instanceMethod yX4_drawMoves) ∈ wsG := ws_t (i := 495) (by decide +kernel) (by decide +kernel)
theorem sel_X4_drawMoves : (Cond.selects RX4 yX4_drawMoves yX4_drawMoves) ∈ wsG := ws_s (i := 18) (by decide +kernel) (by decide +kernel)
theorem cd_X4_drawMoves : (Cond.code yX4_drawMoves cX4_drawMoves 4 none) ∈ wsG := ws_t (i := 496) (by decide +kernel) (by decide +kernel)
theorem ml_X4_92 : (Cond.methodLink RX4 92 yX4_draw) ∈ wsG := ws_t (i := 497) (by decide +kernel) (by decide +kernel)
theorem im_X4_draw : (Cond.instanceMethod yX4_draw) ∈ wsG := ws_t (i := 499) (by decide +kernel) (by decide +kernel)
theorem sel_X4_draw : (Cond.selects RX4 yX4_draw yX4_draw) ∈ wsG := ws_s (i := 19) (by decide +kernel) (by decide +kernel)
theorem cd_X4_draw : (Cond.code yX4_draw cX4_draw 1 (some .int)) ∈ wsG := ws_t (i := 500) (by decide +kernel) (by decide +kernel)
theorem kc_X4_91 : (Cond.constant RX4 91 (1103515245)) ∈ wsG := ws_t (i := 501) (by decide +kernel) (by decide +kernel)
theorem ml_X4_96 : (Cond.methodLink RX4 96 yX4_meet) ∈ wsG := ws_t (i := 502) (by decide +kernel) (by decide +kernel)
theorem im_X4_nearestIn : (Cond.instanceMethod yX4_nearestIn) ∈ wsG := ws_t (i := 505) (by decide +kernel) (by decide +kernel)
theorem sel_X4_nearestIn : (Cond.selects RX4 yX4_nearestIn yX4_nearestIn) ∈ wsG := ws_s (i := 20) (by decide +kernel) (by decide +kernel)
theorem cd_X4_nearestIn : (Cond.code yX4_nearestIn cX4_nearestIn 4 (some .int)) ∈ wsG := ws_t (i := 506) (by decide +kernel) (by decide +kernel)
theorem ml_L_75 : (Cond.methodLink RL 75 yX7_loose) ∈ wsG := ws_t (i := 962) (by decide +kernel) (by decide +kernel)
theorem im_X7_loose : (Cond.instanceMethod yX7_loose) ∈ wsG := ws_t (i := 963) (by decide +kernel) (by decide +kernel)
theorem sel_X7_loose : (Cond.selects RX7 yX7_loose yX7_loose) ∈ wsG := ws_t (i := 964) (by decide +kernel) (by decide +kernel)
theorem cd_X7_loose : (Cond.code yX7_loose cX7_loose 4 (some .int)) ∈ wsG := ws_t (i := 965) (by decide +kernel) (by decide +kernel)
theorem ml_X7_185 : (Cond.methodLink RX7 185 yX7_errands) ∈ wsG := ws_t (i := 966) (by decide +kernel) (by decide +kernel)
theorem im_X7_errands : (Cond.instanceMethod yX7_errands) ∈ wsG := ws_t (i := 968) (by decide +kernel) (by decide +kernel)
theorem sel_X7_errands : (Cond.selects RX7 yX7_errands yX7_errands) ∈ wsG := ws_s (i := 70) (by decide +kernel) (by decide +kernel)
theorem cd_X7_errands : (Cond.code yX7_errands cX7_errands 5 none) ∈ wsG := ws_t (i := 969) (by decide +kernel) (by decide +kernel)
theorem ml_X7_182 : (Cond.methodLink RX7 182 yX7_draw) ∈ wsG := ws_t (i := 970) (by decide +kernel) (by decide +kernel)
theorem im_X7_draw : (Cond.instanceMethod yX7_draw) ∈ wsG := ws_t (i := 972) (by decide +kernel) (by decide +kernel)
theorem sel_X7_draw : (Cond.selects RX7 yX7_draw yX7_draw) ∈ wsG := ws_s (i := 71) (by decide +kernel) (by decide +kernel)
theorem cd_X7_draw : (Cond.code yX7_draw cX7_draw 1 (some .int)) ∈ wsG := ws_t (i := 973) (by decide +kernel) (by decide +kernel)
theorem kc_X7_158 : (Cond.constant RX7 158 (1103515245)) ∈ wsG := ws_t (i := 974) (by decide +kernel) (by decide +kernel)
theorem ml_X7_188 : (Cond.methodLink RX7 188 yX7_nearestNow) ∈ wsG := ws_t (i := 975) (by decide +kernel) (by decide +kernel)
theorem im_X7_nearestNow : (Cond.instanceMethod yX7_nearestNow) ∈ wsG := ws_t (i := 977) (by decide +kernel) (by decide +kernel)
theorem sel_X7_nearestNow : (Cond.selects RX7 yX7_nearestNow yX7_nearestNow) ∈ wsG := ws_s (i := 72) (by decide +kernel) (by decide +kernel)
theorem cd_X7_nearestNow : (Cond.code yX7_nearestNow cX7_nearestNow 3 (some .int)) ∈ wsG := ws_t (i := 978) (by decide +kernel) (by decide +kernel)
theorem ml_L_76 : (Cond.methodLink RL 76 yX6_seed) ∈ wsG := ws_t (i := 507) (by decide +kernel) (by decide +kernel)
theorem im_X6_seed : (Cond.instanceMethod yX6_seed) ∈ wsG := ws_t (i := 508) (by decide +kernel) (by decide +kernel)
theorem sel_X6_seed : (Cond.selects RX6 yX6_seed yX6_seed) ∈ wsG := ws_t (i := 509) (by decide +kernel) (by decide +kernel)
theorem cd_X6_seed : (Cond.code yX6_seed cX6_seed 3 (some .int)) ∈ wsG := ws_t (i := 510) (by decide +kernel) (by decide +kernel)
theorem ml_L_79 : (Cond.methodLink RL 79 yX7_seed) ∈ wsG := ws_t (i := 979) (by decide +kernel) (by decide +kernel)
theorem im_X7_seed : (Cond.instanceMethod yX7_seed) ∈ wsG := ws_t (i := 980) (by decide +kernel) (by decide +kernel)
theorem sel_X7_seed : (Cond.selects RX7 yX7_seed yX7_seed) ∈ wsG := ws_t (i := 981) (by decide +kernel) (by decide +kernel)
theorem cd_X7_seed : (Cond.code yX7_seed cX7_seed 2 (some .int)) ∈ wsG := ws_t (i := 982) (by decide +kernel) (by decide +kernel)
theorem ml_L_80 : (Cond.methodLink RL 80 yX6_nearest) ∈ wsG := ws_t (i := 511) (by decide +kernel) (by decide +kernel)
theorem im_X6_nearest : (Cond.instanceMethod yX6_nearest) ∈ wsG := ws_t (i := 512) (by decide +kernel) (by decide +kernel)
theorem sel_X6_nearest : (Cond.selects RX6 yX6_nearest yX6_nearest) ∈ wsG := ws_t (i := 513) (by decide +kernel) (by decide +kernel)
theorem cd_X6_nearest : (Cond.code yX6_nearest cX6_nearest 2 (some .int)) ∈ wsG := ws_t (i := 514) (by decide +kernel) (by decide +kernel)
theorem ml_X6_159 : (Cond.methodLink RX6 159 yX6_think) ∈ wsG := ws_t (i := 515) (by decide +kernel) (by decide +kernel)
theorem im_X6_think : (Cond.instanceMethod yX6_think) ∈ wsG := ws_t (i := 517) (by decide +kernel) (by decide +kernel)
theorem sel_X6_think : (Cond.selects RX6 yX6_think yX6_think) ∈ wsG := ws_s (i := 21) (by decide +kernel) (by decide +kernel)
theorem cd_X6_think : (Cond.code yX6_think cX6_think 3 none) ∈ wsG := ws_t (i := 518) (by decide +kernel) (by decide +kernel)
theorem im_X3_copy : (Cond.instanceMethod yX3_copy) ∈ wsG := ws_t (i := 521) (by decide +kernel) (by decide +kernel)
theorem sel_X3_copy : (Cond.selects RX3 yX3_copy yX3_copy) ∈ wsG := ws_s (i := 22) (by decide +kernel) (by decide +kernel)
theorem cd_X3_copy : (Cond.code yX3_copy cX3_copy 2 none) ∈ wsG := ws_t (i := 522) (by decide +kernel) (by decide +kernel)
theorem ml_X3_18 : (Cond.methodLink RX3 18 arraycopyName) ∈ wsG := ws_t (i := 523) (by decide +kernel) (by decide +kernel)
theorem fl_X3_24 : (Cond.fieldLink RX3 24 "GoingAbout$Standing" "day" "I") ∈ wsG := ws_t (i := 43) (by decide +kernel) (by decide +kernel)
theorem ml_L_83 : (Cond.methodLink RL 83 yX7_nearest) ∈ wsG := ws_t (i := 983) (by decide +kernel) (by decide +kernel)
theorem im_X7_nearest : (Cond.instanceMethod yX7_nearest) ∈ wsG := ws_t (i := 984) (by decide +kernel) (by decide +kernel)
theorem sel_X7_nearest : (Cond.selects RX7 yX7_nearest yX7_nearest) ∈ wsG := ws_t (i := 985) (by decide +kernel) (by decide +kernel)
theorem cd_X7_nearest : (Cond.code yX7_nearest cX7_nearest 3 (some .int)) ∈ wsG := ws_t (i := 986) (by decide +kernel) (by decide +kernel)
theorem ml_X7_191 : (Cond.methodLink RX7 191 yX7_layDown) ∈ wsG := ws_t (i := 987) (by decide +kernel) (by decide +kernel)
theorem im_X7_layDown : (Cond.instanceMethod yX7_layDown) ∈ wsG := ws_t (i := 989) (by decide +kernel) (by decide +kernel)
theorem sel_X7_layDown : (Cond.selects RX7 yX7_layDown yX7_layDown) ∈ wsG := ws_s (i := 73) (by decide +kernel) (by decide +kernel)
theorem cd_X7_layDown : (Cond.code yX7_layDown cX7_layDown 2 none) ∈ wsG := ws_t (i := 990) (by decide +kernel) (by decide +kernel)
theorem ml_X7_194 : (Cond.methodLink RX7 194 yX7_layBack) ∈ wsG := ws_t (i := 991) (by decide +kernel) (by decide +kernel)
theorem im_X7_layBack : (Cond.instanceMethod yX7_layBack) ∈ wsG := ws_t (i := 993) (by decide +kernel) (by decide +kernel)
theorem sel_X7_layBack : (Cond.selects RX7 yX7_layBack yX7_layBack) ∈ wsG := ws_s (i := 74) (by decide +kernel) (by decide +kernel)
theorem cd_X7_layBack : (Cond.code yX7_layBack cX7_layBack 2 none) ∈ wsG := ws_t (i := 994) (by decide +kernel) (by decide +kernel)
theorem ml_L_84 : (Cond.methodLink RL 84 yX6_then) ∈ wsG := ws_t (i := 524) (by decide +kernel) (by decide +kernel)
theorem im_X6_then : (Cond.instanceMethod yX6_then) ∈ wsG := ws_t (i := 525) (by decide +kernel) (by decide +kernel)
theorem sel_X6_then : (Cond.selects RX6 yX6_then yX6_then) ∈ wsG := ws_t (i := 526) (by decide +kernel) (by decide +kernel)
theorem cd_X6_then : (Cond.code yX6_then cX6_then 4 (some .int)) ∈ wsG := ws_t (i := 527) (by decide +kernel) (by decide +kernel)
theorem ml_L_87 : (Cond.methodLink RL 87 yX7_then) ∈ wsG := ws_t (i := 995) (by decide +kernel) (by decide +kernel)
theorem im_X7_then : (Cond.instanceMethod yX7_then) ∈ wsG := ws_t (i := 996) (by decide +kernel) (by decide +kernel)
theorem sel_X7_then : (Cond.selects RX7 yX7_then yX7_then) ∈ wsG := ws_t (i := 997) (by decide +kernel) (by decide +kernel)
theorem cd_X7_then : (Cond.code yX7_then cX7_then 5 (some .int)) ∈ wsG := ws_t (i := 998) (by decide +kernel) (by decide +kernel)
theorem ml_L_88 : (Cond.methodLink RL 88 yX6_settles) ∈ wsG := ws_t (i := 528) (by decide +kernel) (by decide +kernel)
theorem im_X6_settles : (Cond.instanceMethod yX6_settles) ∈ wsG := ws_t (i := 529) (by decide +kernel) (by decide +kernel)
theorem sel_X6_settles : (Cond.selects RX6 yX6_settles yX6_settles) ∈ wsG := ws_t (i := 530) (by decide +kernel) (by decide +kernel)
theorem cd_X6_settles : (Cond.code yX6_settles cX6_settles 2 (some .int)) ∈ wsG := ws_t (i := 531) (by decide +kernel) (by decide +kernel)
theorem ml_L_92 : (Cond.methodLink RL 92 yX7_settles) ∈ wsG := ws_t (i := 999) (by decide +kernel) (by decide +kernel)
theorem im_X7_settles : (Cond.instanceMethod yX7_settles) ∈ wsG := ws_t (i := 1000) (by decide +kernel) (by decide +kernel)
theorem sel_X7_settles : (Cond.selects RX7 yX7_settles yX7_settles) ∈ wsG := ws_t (i := 1001) (by decide +kernel) (by decide +kernel)
theorem cd_X7_settles : (Cond.code yX7_settles cX7_settles 2 (some .int)) ∈ wsG := ws_t (i := 1002) (by decide +kernel) (by decide +kernel)
theorem ml_X7_197 : (Cond.methodLink RX7 197 yX7_isSettled) ∈ wsG := ws_t (i := 1003) (by decide +kernel) (by decide +kernel)
theorem im_X7_isSettled : (Cond.instanceMethod yX7_isSettled) ∈ wsG := ws_t (i := 1005) (by decide +kernel) (by decide +kernel)
theorem sel_X7_isSettled : (Cond.selects RX7 yX7_isSettled yX7_isSettled) ∈ wsG := ws_s (i := 75) (by decide +kernel) (by decide +kernel)
theorem cd_X7_isSettled : (Cond.code yX7_isSettled cX7_isSettled 3 (some .boolean)) ∈ wsG := ws_t (i := 1006) (by decide +kernel) (by decide +kernel)
theorem ml_L_93 : (Cond.methodLink RL 93 yX6_rank) ∈ wsG := ws_t (i := 532) (by decide +kernel) (by decide +kernel)
theorem im_X6_rank : (Cond.instanceMethod yX6_rank) ∈ wsG := ws_t (i := 533) (by decide +kernel) (by decide +kernel)
theorem sel_X6_rank : (Cond.selects RX6 yX6_rank yX6_rank) ∈ wsG := ws_t (i := 534) (by decide +kernel) (by decide +kernel)
theorem cd_X6_rank : (Cond.code yX6_rank cX6_rank 2 (some .int)) ∈ wsG := ws_t (i := 535) (by decide +kernel) (by decide +kernel)
theorem im_X4_countNearer : (Cond.instanceMethod yX4_countNearer) ∈ wsG := ws_t (i := 538) (by decide +kernel) (by decide +kernel)
theorem sel_X4_countNearer : (Cond.selects RX4 yX4_countNearer yX4_countNearer) ∈ wsG := ws_s (i := 23) (by decide +kernel) (by decide +kernel)
theorem cd_X4_countNearer : (Cond.code yX4_countNearer cX4_countNearer 4 (some .int)) ∈ wsG := ws_t (i := 539) (by decide +kernel) (by decide +kernel)
theorem ml_L_96 : (Cond.methodLink RL 96 yX7_rank) ∈ wsG := ws_t (i := 1007) (by decide +kernel) (by decide +kernel)
theorem im_X7_rank : (Cond.instanceMethod yX7_rank) ∈ wsG := ws_t (i := 1008) (by decide +kernel) (by decide +kernel)
theorem sel_X7_rank : (Cond.selects RX7 yX7_rank yX7_rank) ∈ wsG := ws_t (i := 1009) (by decide +kernel) (by decide +kernel)
theorem cd_X7_rank : (Cond.code yX7_rank cX7_rank 4 (some .int)) ∈ wsG := ws_t (i := 1010) (by decide +kernel) (by decide +kernel)
theorem ml_L_97 : (Cond.methodLink RL 97 yX6_signs) ∈ wsG := ws_t (i := 540) (by decide +kernel) (by decide +kernel)
theorem im_X6_signs : (Cond.instanceMethod yX6_signs) ∈ wsG := ws_t (i := 541) (by decide +kernel) (by decide +kernel)
theorem sel_X6_signs : (Cond.selects RX6 yX6_signs yX6_signs) ∈ wsG := ws_t (i := 542) (by decide +kernel) (by decide +kernel)
theorem cd_X6_signs : (Cond.code yX6_signs cX6_signs 6 (some .int)) ∈ wsG := ws_t (i := 543) (by decide +kernel) (by decide +kernel)
theorem ml_X6_166 : (Cond.methodLink RX6 166 yX6_thinkSigned) ∈ wsG := ws_t (i := 544) (by decide +kernel) (by decide +kernel)
theorem im_X6_thinkSigned : (Cond.instanceMethod yX6_thinkSigned) ∈ wsG := ws_t (i := 546) (by decide +kernel) (by decide +kernel)
theorem sel_X6_thinkSigned : (Cond.selects RX6 yX6_thinkSigned yX6_thinkSigned) ∈ wsG := ws_s (i := 24) (by decide +kernel) (by decide +kernel)
theorem cd_X6_thinkSigned : (Cond.code yX6_thinkSigned cX6_thinkSigned 4 none) ∈ wsG := ws_t (i := 547) (by decide +kernel) (by decide +kernel)
theorem ml_X6_170 : (Cond.methodLink RX6 170 yX6_fewestFor) ∈ wsG := ws_t (i := 548) (by decide +kernel) (by decide +kernel)
theorem im_X6_fewestFor : (Cond.instanceMethod yX6_fewestFor) ∈ wsG := ws_t (i := 550) (by decide +kernel) (by decide +kernel)
theorem sel_X6_fewestFor : (Cond.selects RX6 yX6_fewestFor yX6_fewestFor) ∈ wsG := ws_s (i := 25) (by decide +kernel) (by decide +kernel)
theorem cd_X6_fewestFor : (Cond.code yX6_fewestFor cX6_fewestFor 5 (some .int)) ∈ wsG := ws_t (i := 551) (by decide +kernel) (by decide +kernel)
theorem ml_X6_173 : (Cond.methodLink RX6 173 yJ6_bitCount_0f7a4) ∈ wsG := ws_t (i := 552) (by decide +kernel) (by decide +kernel)
theorem st_J6_bitCount_0f7a4 : (Cond.static yJ6_bitCount_0f7a4) ∈ wsG := ws_t (i := 553) (by decide +kernel) (by decide +kernel)
theorem ini_J6 : (Cond.initialized RJ6) ∈ wsG := ws_t (i := 16) (by decide +kernel) (by decide +kernel)
theorem cd_J6_bitCount_0f7a4 : (Cond.code yJ6_bitCount_0f7a4 cJ6_bitCount_0f7a4 1 (some .int)) ∈ wsG := ws_t (i := 554) (by decide +kernel) (by decide +kernel)
theorem kc_J6_265 : (Cond.constant RJ6 265 (1431655765)) ∈ wsG := ws_t (i := 555) (by decide +kernel) (by decide +kernel)
theorem kc_J6_266 : (Cond.constant RJ6 266 (858993459)) ∈ wsG := ws_t (i := 556) (by decide +kernel) (by decide +kernel)
theorem kc_J6_267 : (Cond.constant RJ6 267 (252645135)) ∈ wsG := ws_t (i := 557) (by decide +kernel) (by decide +kernel)
theorem ml_X6_266 : (Cond.methodLink RX6 266 yX6_nearestIfSigned) ∈ wsG := ws_t (i := 558) (by decide +kernel) (by decide +kernel)
theorem im_X6_nearestIfSigned : (Cond.instanceMethod yX6_nearestIfSigned) ∈ wsG := ws_t (i := 560) (by decide +kernel) (by decide +kernel)
theorem sel_X6_nearestIfSigned : (Cond.selects RX6 yX6_nearestIfSigned yX6_nearestIfSigned) ∈ wsG := ws_s (i := 26) (by decide +kernel) (by decide +kernel)
theorem cd_X6_nearestIfSigned : (Cond.code yX6_nearestIfSigned cX6_nearestIfSigned 4 (some .int)) ∈ wsG := ws_t (i := 561) (by decide +kernel) (by decide +kernel)
theorem ml_X6_263 : (Cond.methodLink RX6 263 yX6_nearIfSigned) ∈ wsG := ws_t (i := 562) (by decide +kernel) (by decide +kernel)
theorem im_X6_nearIfSigned : (Cond.instanceMethod yX6_nearIfSigned) ∈ wsG := ws_t (i := 564) (by decide +kernel) (by decide +kernel)
theorem sel_X6_nearIfSigned : (Cond.selects RX6 yX6_nearIfSigned yX6_nearIfSigned) ∈ wsG := ws_s (i := 27) (by decide +kernel) (by decide +kernel)
theorem cd_X6_nearIfSigned : (Cond.code yX6_nearIfSigned cX6_nearIfSigned 3 (some .int)) ∈ wsG := ws_t (i := 565) (by decide +kernel) (by decide +kernel)
theorem ml_L_100 : (Cond.methodLink RL 100 yX7_signs) ∈ wsG := ws_t (i := 1011) (by decide +kernel) (by decide +kernel)
theorem im_X7_signs : (Cond.instanceMethod yX7_signs) ∈ wsG := ws_t (i := 1012) (by decide +kernel) (by decide +kernel)
theorem sel_X7_signs : (Cond.selects RX7 yX7_signs yX7_signs) ∈ wsG := ws_t (i := 1013) (by decide +kernel) (by decide +kernel)
theorem cd_X7_signs : (Cond.code yX7_signs cX7_signs 8 (some .int)) ∈ wsG := ws_t (i := 1014) (by decide +kernel) (by decide +kernel)
theorem ml_X7_200 : (Cond.methodLink RX7 200 yX7_manyIn) ∈ wsG := ws_t (i := 1015) (by decide +kernel) (by decide +kernel)
theorem st_X7_manyIn : (Cond.static yX7_manyIn) ∈ wsG := ws_t (i := 1016) (by decide +kernel) (by decide +kernel)
theorem cd_X7_manyIn : (Cond.code yX7_manyIn cX7_manyIn 3 (some .int)) ∈ wsG := ws_t (i := 1017) (by decide +kernel) (by decide +kernel)
theorem ml_X7_203 : (Cond.methodLink RX7 203 yX7_doesLead) ∈ wsG := ws_t (i := 1018) (by decide +kernel) (by decide +kernel)
theorem im_X7_doesLead : (Cond.instanceMethod yX7_doesLead) ∈ wsG := ws_t (i := 1020) (by decide +kernel) (by decide +kernel)
theorem sel_X7_doesLead : (Cond.selects RX7 yX7_doesLead yX7_doesLead) ∈ wsG := ws_s (i := 76) (by decide +kernel) (by decide +kernel)
theorem cd_X7_doesLead : (Cond.code yX7_doesLead cX7_doesLead 6 (some .boolean)) ∈ wsG := ws_t (i := 1021) (by decide +kernel) (by decide +kernel)
theorem ml_L_101 : (Cond.methodLink RL 101 yX6_heard) ∈ wsG := ws_t (i := 566) (by decide +kernel) (by decide +kernel)
theorem im_X6_heard : (Cond.instanceMethod yX6_heard) ∈ wsG := ws_t (i := 567) (by decide +kernel) (by decide +kernel)
theorem sel_X6_heard : (Cond.selects RX6 yX6_heard yX6_heard) ∈ wsG := ws_t (i := 568) (by decide +kernel) (by decide +kernel)
theorem cd_X6_heard : (Cond.code yX6_heard cX6_heard 2 (some .int)) ∈ wsG := ws_t (i := 569) (by decide +kernel) (by decide +kernel)
theorem im_X4_comeToFrom : (Cond.instanceMethod yX4_comeToFrom) ∈ wsG := ws_t (i := 572) (by decide +kernel) (by decide +kernel)
theorem sel_X4_comeToFrom : (Cond.selects RX4 yX4_comeToFrom yX4_comeToFrom) ∈ wsG := ws_s (i := 28) (by decide +kernel) (by decide +kernel)
theorem cd_X4_comeToFrom : (Cond.code yX4_comeToFrom cX4_comeToFrom 5 (some .int)) ∈ wsG := ws_t (i := 573) (by decide +kernel) (by decide +kernel)
theorem ml_L_104 : (Cond.methodLink RL 104 yX7_heard) ∈ wsG := ws_t (i := 1022) (by decide +kernel) (by decide +kernel)
theorem im_X7_heard : (Cond.instanceMethod yX7_heard) ∈ wsG := ws_t (i := 1023) (by decide +kernel) (by decide +kernel)
theorem sel_X7_heard : (Cond.selects RX7 yX7_heard yX7_heard) ∈ wsG := ws_t (i := 1024) (by decide +kernel) (by decide +kernel)
theorem cd_X7_heard : (Cond.code yX7_heard cX7_heard 5 (some .int)) ∈ wsG := ws_t (i := 1025) (by decide +kernel) (by decide +kernel)
theorem ml_L_105 : (Cond.methodLink RL 105 yX6_odds) ∈ wsG := ws_t (i := 574) (by decide +kernel) (by decide +kernel)
theorem im_X6_odds : (Cond.instanceMethod yX6_odds) ∈ wsG := ws_t (i := 575) (by decide +kernel) (by decide +kernel)
theorem sel_X6_odds : (Cond.selects RX6 yX6_odds yX6_odds) ∈ wsG := ws_t (i := 576) (by decide +kernel) (by decide +kernel)
theorem cd_X6_odds : (Cond.code yX6_odds cX6_odds 6 (some .int)) ∈ wsG := ws_t (i := 577) (by decide +kernel) (by decide +kernel)
theorem im_X4_countTakenNearer : (Cond.instanceMethod yX4_countTakenNearer) ∈ wsG := ws_t (i := 580) (by decide +kernel) (by decide +kernel)
theorem sel_X4_countTakenNearer : (Cond.selects RX4 yX4_countTakenNearer yX4_countTakenNearer) ∈ wsG := ws_s (i := 29) (by decide +kernel) (by decide +kernel)
theorem cd_X4_countTakenNearer : (Cond.code yX4_countTakenNearer cX4_countTakenNearer 4 (some .int)) ∈ wsG := ws_t (i := 581) (by decide +kernel) (by decide +kernel)
theorem ml_X6_184 : (Cond.methodLink RX6 184 yX6_commonDivisor) ∈ wsG := ws_t (i := 582) (by decide +kernel) (by decide +kernel)
theorem st_X6_commonDivisor : (Cond.static yX6_commonDivisor) ∈ wsG := ws_t (i := 583) (by decide +kernel) (by decide +kernel)
theorem cd_X6_commonDivisor : (Cond.code yX6_commonDivisor cX6_commonDivisor 6 (some .int)) ∈ wsG := ws_t (i := 584) (by decide +kernel) (by decide +kernel)
theorem ml_L_108 : (Cond.methodLink RL 108 yX7_odds) ∈ wsG := ws_t (i := 1026) (by decide +kernel) (by decide +kernel)
theorem im_X7_odds : (Cond.instanceMethod yX7_odds) ∈ wsG := ws_t (i := 1027) (by decide +kernel) (by decide +kernel)
theorem sel_X7_odds : (Cond.selects RX7 yX7_odds yX7_odds) ∈ wsG := ws_t (i := 1028) (by decide +kernel) (by decide +kernel)
theorem cd_X7_odds : (Cond.code yX7_odds cX7_odds 6 (some .int)) ∈ wsG := ws_t (i := 1029) (by decide +kernel) (by decide +kernel)
theorem ml_X7_207 : (Cond.methodLink RX7 207 yX7_divisor) ∈ wsG := ws_t (i := 1030) (by decide +kernel) (by decide +kernel)
theorem st_X7_divisor : (Cond.static yX7_divisor) ∈ wsG := ws_t (i := 1031) (by decide +kernel) (by decide +kernel)
theorem cd_X7_divisor : (Cond.code yX7_divisor cX7_divisor 5 (some .int)) ∈ wsG := ws_t (i := 1032) (by decide +kernel) (by decide +kernel)
theorem ml_L_109 : (Cond.methodLink RL 109 yX6_began) ∈ wsG := ws_t (i := 585) (by decide +kernel) (by decide +kernel)
theorem im_X6_began : (Cond.instanceMethod yX6_began) ∈ wsG := ws_t (i := 586) (by decide +kernel) (by decide +kernel)
theorem sel_X6_began : (Cond.selects RX6 yX6_began yX6_began) ∈ wsG := ws_t (i := 587) (by decide +kernel) (by decide +kernel)
theorem cd_X6_began : (Cond.code yX6_began cX6_began 9 (some .int)) ∈ wsG := ws_t (i := 588) (by decide +kernel) (by decide +kernel)
theorem ml_X6_198 : (Cond.methodLink RX6 198 Lib.Math.min.name) ∈ wsG := ws_t (i := 600) (by decide +kernel) (by decide +kernel)
theorem ml_X6_187 : (Cond.methodLink RX6 187 yX6_isSheet) ∈ wsG := ws_t (i := 589) (by decide +kernel) (by decide +kernel)
theorem st_X6_isSheet : (Cond.static yX6_isSheet) ∈ wsG := ws_t (i := 590) (by decide +kernel) (by decide +kernel)
theorem cd_X6_isSheet : (Cond.code yX6_isSheet cX6_isSheet 1 (some .boolean)) ∈ wsG := ws_t (i := 591) (by decide +kernel) (by decide +kernel)
theorem im_X2_isMissing : (Cond.instanceMethod yX2_isMissing) ∈ wsG := ws_t (i := 594) (by decide +kernel) (by decide +kernel)
theorem sel_X2_isMissing : (Cond.selects RX2 yX2_isMissing yX2_isMissing) ∈ wsG := ws_s (i := 30) (by decide +kernel) (by decide +kernel)
theorem cd_X2_isMissing : (Cond.code yX2_isMissing cX2_isMissing 1 (some .boolean)) ∈ wsG := ws_t (i := 595) (by decide +kernel) (by decide +kernel)
theorem fl_X2_15 : (Cond.fieldLink RX2 15 "GoingAbout$Sheet" "bits" "I") ∈ wsG := ws_t (i := 187) (by decide +kernel) (by decide +kernel)
theorem ml_X6_194 : (Cond.methodLink RX6 194 yX6_tellsMixed) ∈ wsG := ws_t (i := 596) (by decide +kernel) (by decide +kernel)
theorem im_X6_tellsMixed : (Cond.instanceMethod yX6_tellsMixed) ∈ wsG := ws_t (i := 598) (by decide +kernel) (by decide +kernel)
theorem sel_X6_tellsMixed : (Cond.selects RX6 yX6_tellsMixed yX6_tellsMixed) ∈ wsG := ws_s (i := 31) (by decide +kernel) (by decide +kernel)
theorem cd_X6_tellsMixed : (Cond.code yX6_tellsMixed cX6_tellsMixed 4 (some .boolean)) ∈ wsG := ws_t (i := 599) (by decide +kernel) (by decide +kernel)
theorem ml_L_112 : (Cond.methodLink RL 112 yX7_began) ∈ wsG := ws_t (i := 1033) (by decide +kernel) (by decide +kernel)
theorem im_X7_began : (Cond.instanceMethod yX7_began) ∈ wsG := ws_t (i := 1034) (by decide +kernel) (by decide +kernel)
theorem sel_X7_began : (Cond.selects RX7 yX7_began yX7_began) ∈ wsG := ws_t (i := 1035) (by decide +kernel) (by decide +kernel)
theorem cd_X7_began : (Cond.code yX7_began cX7_began 9 (some .int)) ∈ wsG := ws_t (i := 1036) (by decide +kernel) (by decide +kernel)
theorem ml_X7_213 : (Cond.methodLink RX7 213 yX7_lacks) ∈ wsG := ws_t (i := 1037) (by decide +kernel) (by decide +kernel)
theorem im_X7_lacks : (Cond.instanceMethod yX7_lacks) ∈ wsG := ws_t (i := 1039) (by decide +kernel) (by decide +kernel)
theorem sel_X7_lacks : (Cond.selects RX7 yX7_lacks yX7_lacks) ∈ wsG := ws_s (i := 77) (by decide +kernel) (by decide +kernel)
theorem cd_X7_lacks : (Cond.code yX7_lacks cX7_lacks 2 (some .int)) ∈ wsG := ws_t (i := 1040) (by decide +kernel) (by decide +kernel)
theorem ml_X7_250 : (Cond.methodLink RX7 250 yX7_isSheet) ∈ wsG := ws_t (i := 1041) (by decide +kernel) (by decide +kernel)
theorem st_X7_isSheet : (Cond.static yX7_isSheet) ∈ wsG := ws_t (i := 1042) (by decide +kernel) (by decide +kernel)
theorem cd_X7_isSheet : (Cond.code yX7_isSheet cX7_isSheet 1 (some .boolean)) ∈ wsG := ws_t (i := 1043) (by decide +kernel) (by decide +kernel)
theorem ml_X7_216 : (Cond.methodLink RX7 216 yX7_isSoBy) ∈ wsG := ws_t (i := 1044) (by decide +kernel) (by decide +kernel)
theorem im_X7_isSoBy : (Cond.instanceMethod yX7_isSoBy) ∈ wsG := ws_t (i := 1046) (by decide +kernel) (by decide +kernel)
theorem sel_X7_isSoBy : (Cond.selects RX7 yX7_isSoBy yX7_isSoBy) ∈ wsG := ws_s (i := 78) (by decide +kernel) (by decide +kernel)
theorem cd_X7_isSoBy : (Cond.code yX7_isSoBy cX7_isSoBy 6 (some .boolean)) ∈ wsG := ws_t (i := 1047) (by decide +kernel) (by decide +kernel)
theorem ml_X7_210 : (Cond.methodLink RX7 210 yX7_areNearSo) ∈ wsG := ws_t (i := 1048) (by decide +kernel) (by decide +kernel)
theorem im_X7_areNearSo : (Cond.instanceMethod yX7_areNearSo) ∈ wsG := ws_t (i := 1050) (by decide +kernel) (by decide +kernel)
theorem sel_X7_areNearSo : (Cond.selects RX7 yX7_areNearSo yX7_areNearSo) ∈ wsG := ws_s (i := 79) (by decide +kernel) (by decide +kernel)
theorem cd_X7_areNearSo : (Cond.code yX7_areNearSo cX7_areNearSo 4 (some .boolean)) ∈ wsG := ws_t (i := 1051) (by decide +kernel) (by decide +kernel)
theorem ml_L_113 : (Cond.methodLink RL 113 yX6_fits) ∈ wsG := ws_t (i := 601) (by decide +kernel) (by decide +kernel)
theorem im_X6_fits : (Cond.instanceMethod yX6_fits) ∈ wsG := ws_t (i := 602) (by decide +kernel) (by decide +kernel)
theorem sel_X6_fits : (Cond.selects RX6 yX6_fits yX6_fits) ∈ wsG := ws_t (i := 603) (by decide +kernel) (by decide +kernel)
theorem cd_X6_fits : (Cond.code yX6_fits cX6_fits 3 (some .int)) ∈ wsG := ws_t (i := 604) (by decide +kernel) (by decide +kernel)
theorem ml_L_116 : (Cond.methodLink RL 116 yX7_fits) ∈ wsG := ws_t (i := 1052) (by decide +kernel) (by decide +kernel)
theorem im_X7_fits : (Cond.instanceMethod yX7_fits) ∈ wsG := ws_t (i := 1053) (by decide +kernel) (by decide +kernel)
theorem sel_X7_fits : (Cond.selects RX7 yX7_fits yX7_fits) ∈ wsG := ws_t (i := 1054) (by decide +kernel) (by decide +kernel)
theorem cd_X7_fits : (Cond.code yX7_fits cX7_fits 4 (some .int)) ∈ wsG := ws_t (i := 1055) (by decide +kernel) (by decide +kernel)
theorem ml_L_117 : (Cond.methodLink RL 117 yX6_voice) ∈ wsG := ws_t (i := 605) (by decide +kernel) (by decide +kernel)
theorem im_X6_voice : (Cond.instanceMethod yX6_voice) ∈ wsG := ws_t (i := 606) (by decide +kernel) (by decide +kernel)
theorem sel_X6_voice : (Cond.selects RX6 yX6_voice yX6_voice) ∈ wsG := ws_t (i := 607) (by decide +kernel) (by decide +kernel)
theorem cd_X6_voice : (Cond.code yX6_voice cX6_voice 5 (some .int)) ∈ wsG := ws_t (i := 608) (by decide +kernel) (by decide +kernel)
theorem im_X5_hear : (Cond.instanceMethod yX5_hear) ∈ wsG := ws_t (i := 611) (by decide +kernel) (by decide +kernel)
theorem sel_X5_hear : (Cond.selects RX5 yX5_hear yX5_hear) ∈ wsG := ws_s (i := 32) (by decide +kernel) (by decide +kernel)
theorem cd_X5_hear : (Cond.code yX5_hear cX5_hear 6 (some .int)) ∈ wsG := ws_t (i := 612) (by decide +kernel) (by decide +kernel)
theorem fl_X5_15 : (Cond.fieldLink RX5 15 "GoingAbout$Voices" "k" "I") ∈ wsG := ws_t (i := 164) (by decide +kernel) (by decide +kernel)
theorem fl_X5_19 : (Cond.fieldLink RX5 19 "GoingAbout$Voices" "kind" "I") ∈ wsG := ws_t (i := 165) (by decide +kernel) (by decide +kernel)
theorem fl_X5_22 : (Cond.fieldLink RX5 22 "GoingAbout$Voices" "m" "I") ∈ wsG := ws_t (i := 166) (by decide +kernel) (by decide +kernel)
theorem fl_X5_25 : (Cond.fieldLink RX5 25 "GoingAbout$Voices" "traced" "I") ∈ wsG := ws_t (i := 160) (by decide +kernel) (by decide +kernel)
theorem fl_X5_28 : (Cond.fieldLink RX5 28 "GoingAbout$Voices" "parted" "Z") ∈ wsG := ws_t (i := 162) (by decide +kernel) (by decide +kernel)
theorem ml_X5_32 : (Cond.methodLink RX5 32 yX5_speak) ∈ wsG := ws_t (i := 613) (by decide +kernel) (by decide +kernel)
theorem im_X5_speak : (Cond.instanceMethod yX5_speak) ∈ wsG := ws_t (i := 615) (by decide +kernel) (by decide +kernel)
theorem sel_X5_speak : (Cond.selects RX5 yX5_speak yX5_speak) ∈ wsG := ws_s (i := 33) (by decide +kernel) (by decide +kernel)
theorem cd_X5_speak : (Cond.code yX5_speak cX5_speak 7 (some .int)) ∈ wsG := ws_t (i := 616) (by decide +kernel) (by decide +kernel)
theorem fl_X5_40 : (Cond.fieldLink RX5 40 "GoingAbout$Voices" "BODIES" "[I") ∈ wsG := ws_t (i := 618) (by decide +kernel) (by decide +kernel)
theorem ml_X5_46 : (Cond.methodLink RX5 46 yX5_workOut) ∈ wsG := ws_t (i := 621) (by decide +kernel) (by decide +kernel)
theorem im_X5_workOut : (Cond.instanceMethod yX5_workOut) ∈ wsG := ws_t (i := 623) (by decide +kernel) (by decide +kernel)
theorem sel_X5_workOut : (Cond.selects RX5 yX5_workOut yX5_workOut) ∈ wsG := ws_s (i := 34) (by decide +kernel) (by decide +kernel)
theorem cd_X5_partAndStir : (Cond.code yX5_partAndStir cX5_partAndStir 5 (some .int)) ∈ wsG := ws_t (i := 632) (by decide +kernel) (by decide +kernel)
theorem cd_X5_workOut : (Cond.code yX5_workOut cX5_workOut 5 (some .int)) ∈ wsG := ws_t (i := 624) (by decide +kernel) (by decide +kernel)
theorem ml_X5_49 : (Cond.methodLink RX5 49 yX5_part) ∈ wsG := ws_t (i := 625) (by decide +kernel) (by decide +kernel)
theorem im_X5_part : (Cond.instanceMethod yX5_part) ∈ wsG := ws_t (i := 627) (by decide +kernel) (by decide +kernel)
theorem sel_X5_part : (Cond.selects RX5 yX5_part yX5_part) ∈ wsG := ws_s (i := 35) (by decide +kernel) (by decide +kernel)
theorem cd_X5_part : (Cond.code yX5_part cX5_part 3 (some .int)) ∈ wsG := ws_t (i := 628) (by decide +kernel) (by decide +kernel)
theorem ml_X5_53 : (Cond.methodLink RX5 53 yX5_partAndStir) ∈ wsG := ws_t (i := 629) (by decide +kernel) (by decide +kernel)
theorem im_X5_partAndStir : (Cond.instanceMethod yX5_partAndStir) ∈ wsG := ws_t (i := 631) (by decide +kernel) (by decide +kernel)
theorem sel_X5_partAndStir : (Cond.selects RX5 yX5_partAndStir yX5_partAndStir) ∈ wsG := ws_s (i := 36) (by decide +kernel) (by decide +kernel)
theorem ml_L_120 : (Cond.methodLink RL 120 yX7_voice) ∈ wsG := ws_t (i := 1056) (by decide +kernel) (by decide +kernel)
theorem im_X7_voice : (Cond.instanceMethod yX7_voice) ∈ wsG := ws_t (i := 1057) (by decide +kernel) (by decide +kernel)
theorem sel_X7_voice : (Cond.selects RX7 yX7_voice yX7_voice) ∈ wsG := ws_t (i := 1058) (by decide +kernel) (by decide +kernel)
theorem cd_X7_voice : (Cond.code yX7_voice cX7_voice 6 (some .int)) ∈ wsG := ws_t (i := 1059) (by decide +kernel) (by decide +kernel)
theorem fl_X7_219 : (Cond.fieldLink RX7 219 "GoingAboutModel" "traced" "I") ∈ wsG := ws_t (i := 724) (by decide +kernel) (by decide +kernel)
theorem fl_X7_222 : (Cond.fieldLink RX7 222 "GoingAboutModel" "speaks" "I") ∈ wsG := ws_t (i := 726) (by decide +kernel) (by decide +kernel)
theorem fl_X7_243 : (Cond.fieldLink RX7 243 "GoingAboutModel" "isParted" "Z") ∈ wsG := ws_t (i := 727) (by decide +kernel) (by decide +kernel)
theorem ml_X7_231 : (Cond.methodLink RX7 231 yX7_kindNow) ∈ wsG := ws_t (i := 1060) (by decide +kernel) (by decide +kernel)
theorem im_X7_kindNow : (Cond.instanceMethod yX7_kindNow) ∈ wsG := ws_t (i := 1062) (by decide +kernel) (by decide +kernel)
theorem sel_X7_kindNow : (Cond.selects RX7 yX7_kindNow yX7_kindNow) ∈ wsG := ws_s (i := 80) (by decide +kernel) (by decide +kernel)
theorem cd_X7_kindNow : (Cond.code yX7_kindNow cX7_kindNow 1 (some .int)) ∈ wsG := ws_t (i := 1063) (by decide +kernel) (by decide +kernel)
theorem ml_X7_228 : (Cond.methodLink RX7 228 yX7_sighsAs) ∈ wsG := ws_t (i := 1064) (by decide +kernel) (by decide +kernel)
theorem im_X7_sighsAs : (Cond.instanceMethod yX7_sighsAs) ∈ wsG := ws_t (i := 1066) (by decide +kernel) (by decide +kernel)
theorem sel_X7_sighsAs : (Cond.selects RX7 yX7_sighsAs yX7_sighsAs) ∈ wsG := ws_s (i := 81) (by decide +kernel) (by decide +kernel)
theorem cd_X7_sighsAs : (Cond.code yX7_sighsAs cX7_sighsAs 3 (some .int)) ∈ wsG := ws_t (i := 1067) (by decide +kernel) (by decide +kernel)
theorem ml_X7_225 : (Cond.methodLink RX7 225 yX7_starts) ∈ wsG := ws_t (i := 1068) (by decide +kernel) (by decide +kernel)
theorem im_X7_starts : (Cond.instanceMethod yX7_starts) ∈ wsG := ws_t (i := 1070) (by decide +kernel) (by decide +kernel)
theorem sel_X7_starts : (Cond.selects RX7 yX7_starts yX7_starts) ∈ wsG := ws_s (i := 82) (by decide +kernel) (by decide +kernel)
theorem cd_X7_starts : (Cond.code yX7_starts cX7_starts 2 none) ∈ wsG := ws_t (i := 1071) (by decide +kernel) (by decide +kernel)
theorem ml_X7_234 : (Cond.methodLink RX7 234 yX7_stirsAs) ∈ wsG := ws_t (i := 1072) (by decide +kernel) (by decide +kernel)
theorem im_X7_stirsAs : (Cond.instanceMethod yX7_stirsAs) ∈ wsG := ws_t (i := 1074) (by decide +kernel) (by decide +kernel)
theorem sel_X7_stirsAs : (Cond.selects RX7 yX7_stirsAs yX7_stirsAs) ∈ wsG := ws_s (i := 83) (by decide +kernel) (by decide +kernel)
theorem cd_X7_stirsAs : (Cond.code yX7_stirsAs cX7_stirsAs 3 (some .int)) ∈ wsG := ws_t (i := 1075) (by decide +kernel) (by decide +kernel)
theorem ml_X7_237 : (Cond.methodLink RX7 237 yX7_mNow) ∈ wsG := ws_t (i := 1076) (by decide +kernel) (by decide +kernel)
theorem im_X7_mNow : (Cond.instanceMethod yX7_mNow) ∈ wsG := ws_t (i := 1078) (by decide +kernel) (by decide +kernel)
theorem sel_X7_mNow : (Cond.selects RX7 yX7_mNow yX7_mNow) ∈ wsG := ws_s (i := 84) (by decide +kernel) (by decide +kernel)
theorem cd_X7_mNow : (Cond.code yX7_mNow cX7_mNow 1 (some .int)) ∈ wsG := ws_t (i := 1079) (by decide +kernel) (by decide +kernel)
theorem ml_X7_240 : (Cond.methodLink RX7 240 yX7_callsAs) ∈ wsG := ws_t (i := 1080) (by decide +kernel) (by decide +kernel)
theorem im_X7_callsAs : (Cond.instanceMethod yX7_callsAs) ∈ wsG := ws_t (i := 1082) (by decide +kernel) (by decide +kernel)
theorem sel_X7_callsAs : (Cond.selects RX7 yX7_callsAs yX7_callsAs) ∈ wsG := ws_s (i := 85) (by decide +kernel) (by decide +kernel)
theorem cd_X7_callsAs : (Cond.code yX7_callsAs cX7_callsAs 3 (some .int)) ∈ wsG := ws_t (i := 1083) (by decide +kernel) (by decide +kernel)
theorem ml_X7_247 : (Cond.methodLink RX7 247 yX7_partsAs) ∈ wsG := ws_t (i := 1084) (by decide +kernel) (by decide +kernel)
theorem im_X7_partsAs : (Cond.instanceMethod yX7_partsAs) ∈ wsG := ws_t (i := 1086) (by decide +kernel) (by decide +kernel)
theorem sel_X7_partsAs : (Cond.selects RX7 yX7_partsAs yX7_partsAs) ∈ wsG := ws_s (i := 86) (by decide +kernel) (by decide +kernel)
theorem cd_X7_partsAs : (Cond.code yX7_partsAs cX7_partsAs 5 (some .int)) ∈ wsG := ws_t (i := 1087) (by decide +kernel) (by decide +kernel)
theorem ml_L_121 : (Cond.methodLink RL 121 yX6_body) ∈ wsG := ws_t (i := 633) (by decide +kernel) (by decide +kernel)
theorem im_X6_body : (Cond.instanceMethod yX6_body) ∈ wsG := ws_t (i := 634) (by decide +kernel) (by decide +kernel)
theorem sel_X6_body : (Cond.selects RX6 yX6_body yX6_body) ∈ wsG := ws_t (i := 635) (by decide +kernel) (by decide +kernel)
theorem cd_X6_body : (Cond.code yX6_body cX6_body 2 (some .int)) ∈ wsG := ws_t (i := 636) (by decide +kernel) (by decide +kernel)
theorem ml_L_124 : (Cond.methodLink RL 124 yX7_body) ∈ wsG := ws_t (i := 1088) (by decide +kernel) (by decide +kernel)
theorem im_X7_body : (Cond.instanceMethod yX7_body) ∈ wsG := ws_t (i := 1089) (by decide +kernel) (by decide +kernel)
theorem sel_X7_body : (Cond.selects RX7 yX7_body yX7_body) ∈ wsG := ws_t (i := 1090) (by decide +kernel) (by decide +kernel)
theorem cd_X7_body : (Cond.code yX7_body cX7_body 2 (some .int)) ∈ wsG := ws_t (i := 1091) (by decide +kernel) (by decide +kernel)
theorem ml_L_125 : (Cond.methodLink RL 125 yX6_sheet) ∈ wsG := ws_t (i := 637) (by decide +kernel) (by decide +kernel)
theorem im_X6_sheet : (Cond.instanceMethod yX6_sheet) ∈ wsG := ws_t (i := 638) (by decide +kernel) (by decide +kernel)
theorem sel_X6_sheet : (Cond.selects RX6 yX6_sheet yX6_sheet) ∈ wsG := ws_t (i := 639) (by decide +kernel) (by decide +kernel)
theorem cd_X6_sheet : (Cond.code yX6_sheet cX6_sheet 4 (some .int)) ∈ wsG := ws_t (i := 640) (by decide +kernel) (by decide +kernel)
theorem im_X2_lay : (Cond.instanceMethod yX2_lay) ∈ wsG := ws_t (i := 643) (by decide +kernel) (by decide +kernel)
theorem sel_X2_lay : (Cond.selects RX2 yX2_lay yX2_lay) ∈ wsG := ws_s (i := 37) (by decide +kernel) (by decide +kernel)
theorem cd_X2_lay : (Cond.code yX2_lay cX2_lay 4 none) ∈ wsG := ws_t (i := 644) (by decide +kernel) (by decide +kernel)
theorem ml_X2_19 : (Cond.methodLink RX2 19 Lib.Math.min.name) ∈ wsG := ws_t (i := 645) (by decide +kernel) (by decide +kernel)
theorem ml_X2_25 : (Cond.methodLink RX2 25 Lib.Math.max.name) ∈ wsG := ws_t (i := 646) (by decide +kernel) (by decide +kernel)
theorem fl_X2_28 : (Cond.fieldLink RX2 28 "GoingAbout$Sheet" "size" "I") ∈ wsG := ws_t (i := 189) (by decide +kernel) (by decide +kernel)
theorem ml_L_128 : (Cond.methodLink RL 128 yX7_sheet) ∈ wsG := ws_t (i := 1092) (by decide +kernel) (by decide +kernel)
theorem im_X7_sheet : (Cond.instanceMethod yX7_sheet) ∈ wsG := ws_t (i := 1093) (by decide +kernel) (by decide +kernel)
theorem sel_X7_sheet : (Cond.selects RX7 yX7_sheet yX7_sheet) ∈ wsG := ws_t (i := 1094) (by decide +kernel) (by decide +kernel)
theorem cd_X7_sheet : (Cond.code yX7_sheet cX7_sheet 5 (some .int)) ∈ wsG := ws_t (i := 1095) (by decide +kernel) (by decide +kernel)
theorem ml_L_129 : (Cond.methodLink RL 129 yX6_put) ∈ wsG := ws_t (i := 647) (by decide +kernel) (by decide +kernel)
theorem im_X6_put : (Cond.instanceMethod yX6_put) ∈ wsG := ws_t (i := 648) (by decide +kernel) (by decide +kernel)
theorem sel_X6_put : (Cond.selects RX6 yX6_put yX6_put) ∈ wsG := ws_t (i := 649) (by decide +kernel) (by decide +kernel)
theorem cd_X6_put : (Cond.code yX6_put cX6_put 4 (some .int)) ∈ wsG := ws_t (i := 650) (by decide +kernel) (by decide +kernel)
theorem im_X2_write : (Cond.instanceMethod yX2_write) ∈ wsG := ws_t (i := 653) (by decide +kernel) (by decide +kernel)
theorem sel_X2_write : (Cond.selects RX2 yX2_write yX2_write) ∈ wsG := ws_s (i := 38) (by decide +kernel) (by decide +kernel)
theorem cd_X2_write : (Cond.code yX2_write cX2_write 3 none) ∈ wsG := ws_t (i := 654) (by decide +kernel) (by decide +kernel)
theorem ml_L_132 : (Cond.methodLink RL 132 yX7_put) ∈ wsG := ws_t (i := 1096) (by decide +kernel) (by decide +kernel)
theorem im_X7_put : (Cond.instanceMethod yX7_put) ∈ wsG := ws_t (i := 1097) (by decide +kernel) (by decide +kernel)
theorem sel_X7_put : (Cond.selects RX7 yX7_put yX7_put) ∈ wsG := ws_t (i := 1098) (by decide +kernel) (by decide +kernel)
theorem cd_X7_put : (Cond.code yX7_put cX7_put 5 (some .int)) ∈ wsG := ws_t (i := 1099) (by decide +kernel) (by decide +kernel)
theorem ml_L_133 : (Cond.methodLink RL 133 yX6_move) ∈ wsG := ws_t (i := 655) (by decide +kernel) (by decide +kernel)
theorem im_X6_move : (Cond.instanceMethod yX6_move) ∈ wsG := ws_t (i := 656) (by decide +kernel) (by decide +kernel)
theorem sel_X6_move : (Cond.selects RX6 yX6_move yX6_move) ∈ wsG := ws_t (i := 657) (by decide +kernel) (by decide +kernel)
theorem cd_X6_move : (Cond.code yX6_move cX6_move 8 (some .int)) ∈ wsG := ws_t (i := 658) (by decide +kernel) (by decide +kernel)
theorem ml_X6_233 : (Cond.methodLink RX6 233 arraycopyName) ∈ wsG := ws_t (i := 663) (by decide +kernel) (by decide +kernel)
theorem im_X2_holds : (Cond.instanceMethod yX2_holds) ∈ wsG := ws_t (i := 661) (by decide +kernel) (by decide +kernel)
theorem sel_X2_holds : (Cond.selects RX2 yX2_holds yX2_holds) ∈ wsG := ws_s (i := 39) (by decide +kernel) (by decide +kernel)
theorem cd_X2_holds : (Cond.code yX2_holds cX2_holds 3 (some .boolean)) ∈ wsG := ws_t (i := 662) (by decide +kernel) (by decide +kernel)
theorem ml_L_137 : (Cond.methodLink RL 137 yX7_move) ∈ wsG := ws_t (i := 1100) (by decide +kernel) (by decide +kernel)
theorem im_X7_move : (Cond.instanceMethod yX7_move) ∈ wsG := ws_t (i := 1101) (by decide +kernel) (by decide +kernel)
theorem sel_X7_move : (Cond.selects RX7 yX7_move yX7_move) ∈ wsG := ws_t (i := 1102) (by decide +kernel) (by decide +kernel)
theorem cd_X7_move : (Cond.code yX7_move cX7_move 7 (some .int)) ∈ wsG := ws_t (i := 1103) (by decide +kernel) (by decide +kernel)
theorem ml_L_138 : (Cond.methodLink RL 138 yX6_nears) ∈ wsG := ws_t (i := 664) (by decide +kernel) (by decide +kernel)
theorem im_X6_nears : (Cond.instanceMethod yX6_nears) ∈ wsG := ws_t (i := 665) (by decide +kernel) (by decide +kernel)
theorem sel_X6_nears : (Cond.selects RX6 yX6_nears yX6_nears) ∈ wsG := ws_t (i := 666) (by decide +kernel) (by decide +kernel)
theorem cd_X6_nears : (Cond.code yX6_nears cX6_nears 4 (some .int)) ∈ wsG := ws_t (i := 667) (by decide +kernel) (by decide +kernel)
theorem ml_L_141 : (Cond.methodLink RL 141 yX7_nears) ∈ wsG := ws_t (i := 1104) (by decide +kernel) (by decide +kernel)
theorem im_X7_nears : (Cond.instanceMethod yX7_nears) ∈ wsG := ws_t (i := 1105) (by decide +kernel) (by decide +kernel)
theorem sel_X7_nears : (Cond.selects RX7 yX7_nears yX7_nears) ∈ wsG := ws_t (i := 1106) (by decide +kernel) (by decide +kernel)
theorem cd_X7_nears : (Cond.code yX7_nears cX7_nears 4 (some .int)) ∈ wsG := ws_t (i := 1107) (by decide +kernel) (by decide +kernel)
theorem ml_L_142 : (Cond.methodLink RL 142 yX6_judge) ∈ wsG := ws_t (i := 668) (by decide +kernel) (by decide +kernel)
theorem im_X6_judge : (Cond.instanceMethod yX6_judge) ∈ wsG := ws_t (i := 669) (by decide +kernel) (by decide +kernel)
theorem sel_X6_judge : (Cond.selects RX6 yX6_judge yX6_judge) ∈ wsG := ws_t (i := 670) (by decide +kernel) (by decide +kernel)
theorem cd_X6_judge : (Cond.code yX6_judge cX6_judge 4 (some .int)) ∈ wsG := ws_t (i := 671) (by decide +kernel) (by decide +kernel)
theorem ml_L_145 : (Cond.methodLink RL 145 yX7_judge) ∈ wsG := ws_t (i := 1108) (by decide +kernel) (by decide +kernel)
theorem im_X7_judge : (Cond.instanceMethod yX7_judge) ∈ wsG := ws_t (i := 1109) (by decide +kernel) (by decide +kernel)
theorem sel_X7_judge : (Cond.selects RX7 yX7_judge yX7_judge) ∈ wsG := ws_t (i := 1110) (by decide +kernel) (by decide +kernel)
theorem cd_X7_judge : (Cond.code yX7_judge cX7_judge 4 (some .int)) ∈ wsG := ws_t (i := 1111) (by decide +kernel) (by decide +kernel)
theorem ml_L_146 : (Cond.methodLink RL 146 yX6_image) ∈ wsG := ws_t (i := 673) (by decide +kernel) (by decide +kernel)
theorem im_X6_image : (Cond.instanceMethod yX6_image) ∈ wsG := ws_t (i := 674) (by decide +kernel) (by decide +kernel)
theorem sel_X6_image : (Cond.selects RX6 yX6_image yX6_image) ∈ wsG := ws_t (i := 675) (by decide +kernel) (by decide +kernel)
theorem cd_X6_image : (Cond.code yX6_image cX6_image 1 (some .int)) ∈ wsG := ws_t (i := 676) (by decide +kernel) (by decide +kernel)
theorem fl_X6_247 : (Cond.fieldLink RX6 247 "GoingAbout" "images" "I") ∈ wsG := ws_t (i := 202) (by decide +kernel) (by decide +kernel)
theorem im_X4_copy : (Cond.instanceMethod yX4_copy) ∈ wsG := ws_t (i := 679) (by decide +kernel) (by decide +kernel)
theorem sel_X4_copy : (Cond.selects RX4 yX4_copy yX4_copy) ∈ wsG := ws_s (i := 40) (by decide +kernel) (by decide +kernel)
theorem cd_X4_copy : (Cond.code yX4_copy cX4_copy 2 none) ∈ wsG := ws_t (i := 680) (by decide +kernel) (by decide +kernel)
theorem ml_X4_54 : (Cond.methodLink RX4 54 arraycopyName) ∈ wsG := ws_t (i := 681) (by decide +kernel) (by decide +kernel)
theorem fl_X4_76 : (Cond.fieldLink RX4 76 "GoingAbout$Suburb" "waiting" "I") ∈ wsG := ws_t (i := 94) (by decide +kernel) (by decide +kernel)
theorem ml_L_149 : (Cond.methodLink RL 149 yX7_image) ∈ wsG := ws_t (i := 1112) (by decide +kernel) (by decide +kernel)
theorem im_X7_image : (Cond.instanceMethod yX7_image) ∈ wsG := ws_t (i := 1113) (by decide +kernel) (by decide +kernel)
theorem sel_X7_image : (Cond.selects RX7 yX7_image yX7_image) ∈ wsG := ws_t (i := 1114) (by decide +kernel) (by decide +kernel)
theorem cd_X7_image : (Cond.code yX7_image cX7_image 1 (some .int)) ∈ wsG := ws_t (i := 1115) (by decide +kernel) (by decide +kernel)
theorem fl_X7_257 : (Cond.fieldLink RX7 257 "GoingAboutModel" "images" "I") ∈ wsG := ws_t (i := 713) (by decide +kernel) (by decide +kernel)
theorem ml_X7_253 : (Cond.methodLink RX7 253 yX7_copyAll) ∈ wsG := ws_t (i := 1116) (by decide +kernel) (by decide +kernel)
theorem st_X7_copyAll : (Cond.static yX7_copyAll) ∈ wsG := ws_t (i := 1117) (by decide +kernel) (by decide +kernel)
theorem cd_X7_copyAll : (Cond.code yX7_copyAll cX7_copyAll 3 none) ∈ wsG := ws_t (i := 1118) (by decide +kernel) (by decide +kernel)
theorem ml_L_150 : (Cond.methodLink RL 150 yX6_restore) ∈ wsG := ws_t (i := 684) (by decide +kernel) (by decide +kernel)
theorem im_X6_restore : (Cond.instanceMethod yX6_restore) ∈ wsG := ws_t (i := 685) (by decide +kernel) (by decide +kernel)
theorem sel_X6_restore : (Cond.selects RX6 yX6_restore yX6_restore) ∈ wsG := ws_t (i := 686) (by decide +kernel) (by decide +kernel)
theorem cd_X6_restore : (Cond.code yX6_restore cX6_restore 1 (some .int)) ∈ wsG := ws_t (i := 687) (by decide +kernel) (by decide +kernel)
theorem ml_L_153 : (Cond.methodLink RL 153 yX7_restore) ∈ wsG := ws_t (i := 1119) (by decide +kernel) (by decide +kernel)
theorem im_X7_restore : (Cond.instanceMethod yX7_restore) ∈ wsG := ws_t (i := 1120) (by decide +kernel) (by decide +kernel)
theorem sel_X7_restore : (Cond.selects RX7 yX7_restore yX7_restore) ∈ wsG := ws_t (i := 1121) (by decide +kernel) (by decide +kernel)
theorem cd_X7_restore : (Cond.code yX7_restore cX7_restore 1 (some .int)) ∈ wsG := ws_t (i := 1122) (by decide +kernel) (by decide +kernel)
theorem ml_L_154 : (Cond.methodLink RL 154 yX6_tell) ∈ wsG := ws_t (i := 688) (by decide +kernel) (by decide +kernel)
theorem im_X6_tell : (Cond.instanceMethod yX6_tell) ∈ wsG := ws_t (i := 689) (by decide +kernel) (by decide +kernel)
theorem sel_X6_tell : (Cond.selects RX6 yX6_tell yX6_tell) ∈ wsG := ws_t (i := 690) (by decide +kernel) (by decide +kernel)
theorem cd_X6_tell : (Cond.code yX6_tell cX6_tell 2 (some .int)) ∈ wsG := ws_t (i := 691) (by decide +kernel) (by decide +kernel)
theorem ml_L_157 : (Cond.methodLink RL 157 yX7_tell) ∈ wsG := ws_t (i := 1123) (by decide +kernel) (by decide +kernel)
theorem im_X7_tell : (Cond.instanceMethod yX7_tell) ∈ wsG := ws_t (i := 1124) (by decide +kernel) (by decide +kernel)
theorem sel_X7_tell : (Cond.selects RX7 yX7_tell yX7_tell) ∈ wsG := ws_t (i := 1125) (by decide +kernel) (by decide +kernel)
theorem cd_X7_tell : (Cond.code yX7_tell cX7_tell 2 (some .int)) ∈ wsG := ws_t (i := 1126) (by decide +kernel) (by decide +kernel)
theorem ml_L_158 : (Cond.methodLink RL 158 yX6_check) ∈ wsG := ws_t (i := 692) (by decide +kernel) (by decide +kernel)
theorem im_X6_check : (Cond.instanceMethod yX6_check) ∈ wsG := ws_t (i := 693) (by decide +kernel) (by decide +kernel)
theorem sel_X6_check : (Cond.selects RX6 yX6_check yX6_check) ∈ wsG := ws_t (i := 694) (by decide +kernel) (by decide +kernel)
theorem cd_X6_check : (Cond.code yX6_check cX6_check 3 (some .int)) ∈ wsG := ws_t (i := 695) (by decide +kernel) (by decide +kernel)
theorem ml_L_161 : (Cond.methodLink RL 161 yX7_check) ∈ wsG := ws_t (i := 1127) (by decide +kernel) (by decide +kernel)
theorem im_X7_check : (Cond.instanceMethod yX7_check) ∈ wsG := ws_t (i := 1128) (by decide +kernel) (by decide +kernel)
theorem sel_X7_check : (Cond.selects RX7 yX7_check yX7_check) ∈ wsG := ws_t (i := 1129) (by decide +kernel) (by decide +kernel)
theorem cd_X7_check : (Cond.code yX7_check cX7_check 3 (some .int)) ∈ wsG := ws_t (i := 1130) (by decide +kernel) (by decide +kernel)
theorem ml_L_162 : (Cond.methodLink RL 162 yX6_count) ∈ wsG := ws_t (i := 696) (by decide +kernel) (by decide +kernel)
theorem im_X6_count : (Cond.instanceMethod yX6_count) ∈ wsG := ws_t (i := 697) (by decide +kernel) (by decide +kernel)
theorem sel_X6_count : (Cond.selects RX6 yX6_count yX6_count) ∈ wsG := ws_t (i := 698) (by decide +kernel) (by decide +kernel)
theorem cd_X6_count : (Cond.code yX6_count cX6_count 2 (some .int)) ∈ wsG := ws_t (i := 699) (by decide +kernel) (by decide +kernel)
theorem ml_L_165 : (Cond.methodLink RL 165 yX7_count) ∈ wsG := ws_t (i := 1131) (by decide +kernel) (by decide +kernel)
theorem im_X7_count : (Cond.instanceMethod yX7_count) ∈ wsG := ws_t (i := 1132) (by decide +kernel) (by decide +kernel)
theorem sel_X7_count : (Cond.selects RX7 yX7_count yX7_count) ∈ wsG := ws_t (i := 1133) (by decide +kernel) (by decide +kernel)
theorem cd_X7_count : (Cond.code yX7_count cX7_count 2 (some .int)) ∈ wsG := ws_t (i := 1134) (by decide +kernel) (by decide +kernel)
theorem ml_L_166 : (Cond.methodLink RL 166 yX6_told) ∈ wsG := ws_t (i := 700) (by decide +kernel) (by decide +kernel)
theorem im_X6_told : (Cond.instanceMethod yX6_told) ∈ wsG := ws_t (i := 701) (by decide +kernel) (by decide +kernel)
theorem sel_X6_told : (Cond.selects RX6 yX6_told yX6_told) ∈ wsG := ws_t (i := 702) (by decide +kernel) (by decide +kernel)
theorem cd_X6_told : (Cond.code yX6_told cX6_told 2 (some .int)) ∈ wsG := ws_t (i := 703) (by decide +kernel) (by decide +kernel)
theorem ml_L_169 : (Cond.methodLink RL 169 yX7_told) ∈ wsG := ws_t (i := 1135) (by decide +kernel) (by decide +kernel)
theorem im_X7_told : (Cond.instanceMethod yX7_told) ∈ wsG := ws_t (i := 1136) (by decide +kernel) (by decide +kernel)
theorem sel_X7_told : (Cond.selects RX7 yX7_told yX7_told) ∈ wsG := ws_t (i := 1137) (by decide +kernel) (by decide +kernel)
theorem cd_X7_told : (Cond.code yX7_told cX7_told 2 (some .int)) ∈ wsG := ws_t (i := 1138) (by decide +kernel) (by decide +kernel)
end
section
/-! the worlds of the class and of its twin: contracts by continuation -/
def GB_cl : List vw_C := [(RX0, TX0, 4), (RX1, TX1, 6), (RX2, TX2, 3), (RX3, TX3, 3), (RX4, TX4, 12), (RX5, TX5, 6), (RX6, TX6, 9), (RX7, TX7, 22)]
abbrev Gt : Type := va_G × ClassId × ClassId × ClassId × (Nat → Nat) × (Nat → Nat)
def tyG (G : Gt) : List (ClassId × FieldType) := [(G.2.1, .int), (G.2.2.1, .byte), (G.2.2.2.1, .object RX2)]
def nsL : List Cond := [
  Cond.fieldLinkNest "GoingAbout" 88 "GoingAbout$Standing" "near" "[I" "GoingAbout",
  Cond.fieldLinkNest "GoingAbout$Suburb" 79 "GoingAbout$Standing" "near" "[I" "GoingAbout",
  Cond.fieldLinkNest "GoingAbout" 91 "GoingAbout$Standing" "shows" "[I" "GoingAbout",
  Cond.fieldLinkNest "GoingAbout$Suburb" 82 "GoingAbout$Standing" "shows" "[I" "GoingAbout",
  Cond.fieldLinkNest "GoingAbout" 104 "GoingAbout$Standing" "day" "I" "GoingAbout",
  Cond.fieldLinkNest "GoingAbout$Suburb" 107 "GoingAbout$Standing" "day" "I" "GoingAbout",
  Cond.fieldLinkNest "GoingAbout$Suburb" 64 "GoingAbout$Law" "steps" "[I" "GoingAbout",
  Cond.fieldLinkNest "GoingAbout$Suburb" 67 "GoingAbout$Law" "size" "I" "GoingAbout",
  Cond.fieldLinkNest "GoingAbout" 137 "GoingAbout$Law" "size" "I" "GoingAbout",
  Cond.fieldLinkNest "GoingAbout" 68 "GoingAbout$Suburb" "people" "I" "GoingAbout",
  Cond.fieldLinkNest "GoingAbout" 79 "GoingAbout$Suburb" "kind" "[I" "GoingAbout",
  Cond.fieldLinkNest "GoingAbout" 82 "GoingAbout$Suburb" "m" "[I" "GoingAbout",
  Cond.fieldLinkNest "GoingAbout" 94 "GoingAbout$Suburb" "called" "[I" "GoingAbout",
  Cond.fieldLinkNest "GoingAbout" 85 "GoingAbout$Suburb" "standing" "LGoingAbout$Standing;" "GoingAbout",
  Cond.fieldLinkNest "GoingAbout" 125 "GoingAbout$Suburb" "tape" "[B" "GoingAbout",
  Cond.fieldLinkNest "GoingAbout" 115 "GoingAbout$Suburb" "taped" "I" "GoingAbout",
  Cond.fieldLinkNest "GoingAbout" 253 "GoingAbout$Suburb" "waits" "[I" "GoingAbout",
  Cond.fieldLinkNest "GoingAbout" 250 "GoingAbout$Suburb" "waiting" "I" "GoingAbout",
  Cond.fieldLinkNest "GoingAbout" 156 "GoingAbout$Suburb" "z" "I" "GoingAbout",
  Cond.fieldLinkNest "GoingAbout" 214 "GoingAbout$Voices" "trace" "[I" "GoingAbout",
  Cond.fieldLinkNest "GoingAbout" 211 "GoingAbout$Voices" "traced" "I" "GoingAbout",
  Cond.fieldLinkNest "GoingAbout" 207 "GoingAbout$Voices" "parted" "Z" "GoingAbout",
  Cond.fieldLinkNest "GoingAbout" 224 "GoingAbout$Sheet" "bits" "I" "GoingAbout",
  Cond.fieldLinkNest "GoingAbout" 220 "GoingAbout$Sheet" "size" "I" "GoingAbout",
  Cond.fieldLinkNest "GoingAbout" 230 "GoingAbout$Sheet" "numbers" "[I" "GoingAbout",
  Cond.fieldLinkNest "GoingAbout$Voices" 43 "GoingAbout" "ABOVE" "[I" "GoingAbout",
  Cond.methodLinkNest "GoingAbout$Suburb" 30 ⟨"GoingAbout$Law", "<init>", "(I)V"⟩ "GoingAbout",
  Cond.methodLinkNest "GoingAbout" 72 ⟨"GoingAbout$Suburb", "join", "(III)I"⟩ "GoingAbout",
  Cond.methodLinkNest "GoingAbout" 76 ⟨"GoingAbout$Suburb", "has", "(I)Z"⟩ "GoingAbout",
  Cond.methodLinkNest "GoingAbout" 107 ⟨"GoingAbout$Suburb", "takenBy", "(IIII)I"⟩ "GoingAbout",
  Cond.methodLinkNest "GoingAbout$Suburb" 103 ⟨"GoingAbout$Law", "gives", "(III)I"⟩ "GoingAbout",
  Cond.methodLinkNest "GoingAbout" 111 ⟨"GoingAbout$Suburb", "meet", "(II)I"⟩ "GoingAbout",
  Cond.methodLinkNest "GoingAbout" 118 ⟨"GoingAbout$Suburb", "record", "(JI)I"⟩ "GoingAbout",
  Cond.methodLinkNest "GoingAbout" 129 ⟨"GoingAbout$Suburb", "lawOf", "(I)LGoingAbout$Law;"⟩ "GoingAbout",
  Cond.methodLinkNest "GoingAbout" 133 ⟨"GoingAbout$Reading", "read", "([BIILGoingAbout$Law;)I"⟩ "GoingAbout",
  Cond.methodLinkNest "GoingAbout$Reading" 56 ⟨"GoingAbout$Law", "copy", "([II)V"⟩ "GoingAbout",
  Cond.methodLinkNest "GoingAbout" 142 ⟨"GoingAbout$Law", "gives", "(III)I"⟩ "GoingAbout",
  Cond.methodLinkNest "GoingAbout" 145 ⟨"GoingAbout$Suburb", "pass", "(LGoingAbout$Standing;)Z"⟩ "GoingAbout",
  Cond.methodLinkNest "GoingAbout" 149 ⟨"GoingAbout$Suburb", "drawMoves", "()V"⟩ "GoingAbout",
  Cond.methodLinkNest "GoingAbout" 152 ⟨"GoingAbout$Suburb", "nearestIn", "(LGoingAbout$Standing;)I"⟩ "GoingAbout",
  Cond.methodLinkNest "GoingAbout" 260 ⟨"GoingAbout$Standing", "copy", "(LGoingAbout$Standing;)V"⟩ "GoingAbout",
  Cond.methodLinkNest "GoingAbout" 163 ⟨"GoingAbout$Suburb", "countNearer", "(I)I"⟩ "GoingAbout",
  Cond.methodLinkNest "GoingAbout" 178 ⟨"GoingAbout$Suburb", "comeToFrom", "(I)I"⟩ "GoingAbout",
  Cond.methodLinkNest "GoingAbout" 181 ⟨"GoingAbout$Suburb", "countTakenNearer", "(I)I"⟩ "GoingAbout",
  Cond.methodLinkNest "GoingAbout" 190 ⟨"GoingAbout$Sheet", "isMissing", "()Z"⟩ "GoingAbout",
  Cond.methodLinkNest "GoingAbout" 203 ⟨"GoingAbout$Voices", "hear", "(IIIII)I"⟩ "GoingAbout",
  Cond.methodLinkNest "GoingAbout$Voices" 36 ⟨"GoingAbout", "isWithin", "(II)Z"⟩ "GoingAbout",
  Cond.methodLinkNest "GoingAbout" 217 ⟨"GoingAbout$Sheet", "lay", "(II)V"⟩ "GoingAbout",
  Cond.methodLinkNest "GoingAbout" 221 ⟨"GoingAbout$Sheet", "write", "(II)V"⟩ "GoingAbout",
  Cond.methodLinkNest "GoingAbout" 227 ⟨"GoingAbout$Sheet", "holds", "(II)Z"⟩ "GoingAbout",
  Cond.methodLinkNest "GoingAbout" 239 ⟨"GoingAbout$Suburb", "signOf", "(ILGoingAbout$Standing;)I"⟩ "GoingAbout",
  Cond.methodLinkNest "GoingAbout" 243 ⟨"GoingAbout$Suburb", "copy", "(LGoingAbout$Suburb;)V"⟩ "GoingAbout",
  Cond.methodLinkNest "GoingAbout$Suburb" 60 ⟨"GoingAbout$Standing", "copy", "(LGoingAbout$Standing;)V"⟩ "GoingAbout",
  Cond.methodLinkNest "GoingAbout$Suburb" 70 ⟨"GoingAbout$Law", "copy", "([II)V"⟩ "GoingAbout"]
def isNest : Cond → Bool
  | .fieldLinkNest _ _ _ _ _ _ => true
  | .methodLinkNest _ _ _ _ => true
  | _ => false
theorem nsL_nest : ∀ w ∈ nsL, isNest w = true := by decide +kernel
theorem nsL_eq : nsL = ([38, 39, 41, 42, 44, 45, 62, 64, 65, 77, 79, 81, 83, 85, 89, 91, 93, 95, 97, 159, 161, 163, 188, 190, 192, 620, 56, 249, 257, 286, 293, 313, 322, 333, 337, 455, 468, 473, 493, 503, 519, 536, 570, 578, 592, 609, 617, 641, 651, 659, 672, 677, 682, 683] : List Nat).filterMap (fun i => tables_1[i]?) := by decide +kernel
theorem nsL_tbl : ∀ w ∈ nsL, w ∈ tables_1 := by
  intro w hw
  rw [nsL_eq] at hw
  obtain ⟨i, -, hi⟩ := List.mem_filterMap.mp hw
  exact List.mem_of_getElem? hi
theorem nest_warm {s U : State} (hW : s.WarmedH U.vm) {w : Cond} (hn : isNest w = true) (h : va_Nw w s) : va_Nw w U := by
  cases w <;> first | exact va_Nw.warmF hW h | exact va_Nw.warmM hW h | (exact absurd hn (by simp [isNest]))
theorem nest_same {u U : State} (hv : u.vm = U.vm) {w : Cond} (hn : isNest w = true) (h : va_Nw w u) : va_Nw w U := by
  cases w <;> first | exact va_Nw.same rfl hv h | (exact absurd hn (by simp [isNest]))
def f_above : Nat → Int32 := fun k => ([-1, 0, 0, 0, 1, 2, 0] : List Int32).getD k 0
def f_bodies : Nat → Int32 := fun k => ([10, 11, 12, 13, 20, 0, 0, 21, 0, 30, 0, 0, 0, 0, 40, 0, 50, 0, 51, 0, 0, 60, 0, 0, 70, 71, 0, 0] : List Int32).getD k 0
def f_str (k : Nat) : Nat → Int32 := fun j => (([[114, 110, 115], [103, 110, 100]] : List (List Int32)).getD k []).getD j 0
def XF (G : Gt) (A : Nat → Prop) (U : State) (H : Heap) : Prop :=
  (∀ w ∈ nsL, va_Nw w U) ∧
  ((∃ t, va_Z RX6 "ABOVE" "[I" (.ref t) A U H ∧ va_T .int t 7 (fun k => .int (f_above k)) A U H) ∧
   (∃ t, va_Z RX5 "BODIES" "[I" (.ref t) A U H ∧ va_T .int t 28 (fun k => .int (f_bodies k)) A U H) ∧
   vk_S 2 [3, 3] [[114, 110, 115], [103, 110, 100]] G.2.2.2.2.1 G.2.2.2.2.2 A U H ∧ va_Z "java/lang/String" "COMPACT_STRINGS" "Z" (.int 1) A U H) ∧
  vk_R RX1 15 "rns" (G.2.2.2.2.1 0) U ∧ vk_R RX1 44 "gnd" (G.2.2.2.2.1 1) U
theorem XF.kept {G : Gt} {A : Nat → Prop} {U : State} {H H1 : Heap} (h : XF G A U H) (hq : ∀ a : Nat, a < H.size → ¬ A a → H1[a]? = H[a]?) : XF G A U H1 := by
  obtain ⟨h1, ⟨⟨t, h2, h3⟩, ⟨t2, h4, h5⟩, h6, h7⟩, h8, h9⟩ := h
  exact ⟨h1, ⟨⟨t, h2.kept hq, h3.kept hq⟩, ⟨t2, h4.kept hq, h5.kept hq⟩, h6.kept hq, h7.kept hq⟩, h8, h9⟩
theorem XF.narrow {G : Gt} {A B : Nat → Prop} {U : State} {H : Heap} (h : XF G A U H) (hAB : ∀ q, B q → A q) : XF G B U H := by
  obtain ⟨h1, ⟨⟨t, h2, h3⟩, ⟨t2, h4, h5⟩, h6, h7⟩, h8, h9⟩ := h
  exact ⟨h1, ⟨⟨t, h2.narrow hAB, h3.narrow hAB⟩, ⟨t2, h4.narrow hAB, h5.narrow hAB⟩, h6.narrow hAB, h7.narrow hAB⟩, h8, h9⟩
theorem XF.warm {G : Gt} {A : Nat → Prop} {s U : State} {H : Heap} (hW : s.WarmedH U.vm) (h : XF G A s H) : XF G A U H := by
  obtain ⟨h1, ⟨⟨t, h2, h3⟩, ⟨t2, h4, h5⟩, h6, h7⟩, h8, h9⟩ := h
  exact ⟨fun w hw => nest_warm hW (nsL_nest w hw) (h1 w hw), ⟨⟨t, h2.moved hW.alike, h3.moved hW.alike⟩, ⟨t2, h4.moved hW.alike, h5.moved hW.alike⟩, h6.moved hW.alike, h7.moved hW.alike⟩, h8.warm hW, h9.warm hW⟩
theorem XF.same {G : Gt} {A : Nat → Prop} {u U : State} {H : Heap} (hv : u.vm = U.vm) (h : XF G A u H) : XF G A U H := by
  obtain ⟨h1, ⟨⟨t, h2, h3⟩, ⟨t2, h4, h5⟩, h6, h7⟩, h8, h9⟩ := h
  have ha : u.vm.Alike U.vm := hv ▸ Vm.Alike.refl u.vm
  exact ⟨fun w hw => nest_same hv (nsL_nest w hw) (h1 w hw), ⟨⟨t, h2.moved ha, h3.moved ha⟩, ⟨t2, h4.moved ha, h5.moved ha⟩, h6.moved ha, h7.moved ha⟩, h8.same hv.symm, h9.same hv.symm⟩
/-- a world: it is held, and its addresses are apart -/
def wo (G : Gt) (A : Nat → Prop) (ws : va_W) (H : Heap) : Prop := va_P G.1 GB_cl ws H ∧ va_D A ws
/-- a contract's start -/
def Pt0 (G : Gt) (As : List Value) (w : va_W) (sz : Nat) : Array Value → State → Prop :=
  va_Pc As (fun U => U.heap.size = sz ∧ XF G (va_A w sz) U U.heap ∧ va_P G.1 GB_cl w U.heap ∧ va_K G.1 GB_cl (tyG G) U ∧ va_D (fun _ => True) w)
/-- a contract: from world w, with arguments As, an int and a world w' u, with post -/
def CI (l : Launch) (G : Gt) (y : MethodName) (ws : List Cond) (rm : Room) (As : List Value) (w : va_W) {S : Type} (w' : S → va_W) (post : Int32 → S → Prop) : Prop :=
  (∀ u, (w' u).map Prod.fst = w.map Prod.fst) ∧ ∀ sz : Nat, Met l y ws rm (Pt0 G As w sz) (va_Qi post (fun u t => va_P G.1 GB_cl (w' u) t.heap) (va_A w sz)) 0 0 (va_A w sz)
def CV (l : Launch) (G : Gt) (y : MethodName) (ws : List Cond) (rm : Room) (As : List Value) (w : va_W) {S : Type} (w' : S → va_W) (post : S → Prop) : Prop :=
  (∀ u, (w' u).map Prod.fst = w.map Prod.fst) ∧ ∀ sz : Nat, Met l y ws rm (Pt0 G As w sz) (va_Qv post (fun u t => va_P G.1 GB_cl (w' u) t.heap) (va_A w sz)) 0 0 (va_A w sz)
theorem Pt0.blind {G : Gt} {As : List Value} {w : va_W} {sz : Nat} : FrameBlind (Pt0 G As w sz) := by
  intro a U g mk q
  obtain ⟨q0, q1, q2, q3, q4, q5⟩ := q
  exact ⟨q0, q1, XF.same (u := U) rfl q2, q3, va_K.moved (u := U) (U := U.calling g mk a) (Vm.Alike.refl U.vm) q4, q5⟩
/-- what holds all through a method's walk -/
def Cx (p : Program) (s : State) (m : MethodId) (args : Array Value) (meth : Method) (c : Code) (own : String) (cc : ByteArray) (nL : Nat) (c0 : Cond) (G : Gt) (A : Nat → Prop) (rt : Option FieldType) : Prop :=
  (p.tables.exec = Jvm.exec ∧ c.code = cc ∧ c.maxLocals = nL ∧ s.vm.findClass own = some m.cls ∧ ∀ w ∈ c0 :: wsG, w.before args s = true) ∧ va_K G.1 GB_cl (tyG G) s ∧ XF G A s s.heap ∧ meth.sig.returnType = rt ∧ meth.locks = false ∧ ∀ q, s.heap.size ≤ q → A q
theorem va_D.mv {A : Nat → Prop} {w w' : va_W} (h : va_D A w) (e : w'.map Prod.fst = w.map Prod.fst) : va_D A w' := by
  have key : ∀ (k : Nat) (q : Nat × va_E), w'[k]? = some q → ∃ q0, w[k]? = some q0 ∧ q0.1 = q.1 := by
    intro k q hk
    have h1 : (w'.map Prod.fst)[k]? = some q.1 := by rw [List.getElem?_map, hk]; rfl
    rw [e, List.getElem?_map] at h1
    cases h2 : w[k]? with
    | none => rw [h2] at h1; cases h1
    | some q0 => rw [h2] at h1; exact ⟨q0, rfl, Option.some.inj h1⟩
  refine ⟨fun i j x y hi hj hxy => ?_, fun k q hk => ?_⟩
  · obtain ⟨x0, h1, h2⟩ := key i x hi
    obtain ⟨y0, h3, h4⟩ := key j y hj
    exact h.1 i j x0 y0 h1 h3 (h2.trans (hxy.trans h4.symm))
  · obtain ⟨q0, h1, h2⟩ := key k q hk
    rw [← h2]
    exact h.2 k q0 h1
/-- callee's cells put back at their places -/
def pick : Nat → List Nat → va_W → Option (Nat × va_E)
  | k, i :: is, e :: es => bif Nat.beq k i then some e else pick k is es
  | _, _, _ => none
def mixG : Nat → va_W → List Nat → va_W → va_W
  | k, e :: ws, is, es => (pick k is es).getD e :: mixG (k + 1) ws is es
  | _, [], _, _ => []
def mix (ws : va_W) (is : List Nat) (w1 : va_W) : va_W := mixG 0 ws is w1
theorem pick_some : ∀ (is : List Nat) (w1 : va_W) (k : Nat) (q : Nat × va_E), pick k is w1 = some q → ∃ j : Nat, is[j]? = some k ∧ w1[j]? = some q
  | [], _, _, _, h => by simp [pick] at h
  | _ :: _, [], _, _, h => by simp [pick] at h
  | i :: is, e :: es, k, q, h => by
    unfold pick at h
    cases hb : Nat.beq k i with
    | true =>
      rw [hb] at h
      have e1 : e = q := Option.some.inj h
      have e2 : k = i := Nat.eq_of_beq_eq_true hb
      exact ⟨0, by rw [e2]; rfl, by rw [e1]; rfl⟩
    | false =>
      rw [hb] at h
      obtain ⟨j, h1, h2⟩ := pick_some is es k q h
      exact ⟨j + 1, h1, h2⟩
theorem pick_none : ∀ (is : List Nat) (w1 : va_W) (k : Nat), is.length = w1.length → pick k is w1 = none → k ∉ is
  | [], _, _, _, _ => List.not_mem_nil
  | _ :: _, [], _, hl, _ => by cases hl
  | i :: is, e :: es, k, hl, h => by
    unfold pick at h
    cases hb : Nat.beq k i with
    | true => rw [hb] at h; cases h
    | false =>
      rw [hb] at h
      intro hz
      rcases List.mem_cons.mp hz with rfl | hz
      · rw [show Nat.beq k k = true from Nat.beq_refl k] at hb; cases hb
      · exact pick_none is es k (Nat.succ.inj hl) h hz
theorem mixG_get : ∀ (ws : va_W) (b : Nat) (is : List Nat) (w1 : va_W) (k : Nat), (mixG b ws is w1)[k]? = (ws[k]?).map (fun e => (pick (b + k) is w1).getD e)
  | [], _, _, _, k => by cases k <;> rfl
  | e :: ws, b, is, w1, 0 => rfl
  | e :: ws, b, is, w1, k + 1 => by
    show (mixG (b + 1) ws is w1)[k]? = _
    rw [mixG_get ws (b + 1) is w1 k, show b + 1 + k = b + (k + 1) from by omega]
    rfl
theorem mix_fst (is : List Nat) (ws w1 : va_W) (h : ∀ (j i : Nat) (e : Nat × va_E), is[j]? = some i → w1[j]? = some e → (ws.map Prod.fst)[i]? = some e.1) : (mix ws is w1).map Prod.fst = ws.map Prod.fst := by
  apply List.ext_getElem?
  intro k
  rw [List.getElem?_map, List.getElem?_map]
  show Option.map Prod.fst ((mixG 0 ws is w1)[k]?) = _
  rw [mixG_get]
  cases hw : ws[k]? with
  | none => rfl
  | some e =>
    show some ((pick (0 + k) is w1).getD e).1 = some e.1
    rw [Nat.zero_add]
    cases hp : pick k is w1 with
    | none => rfl
    | some q =>
      obtain ⟨j, h1, h2⟩ := pick_some is w1 k q hp
      have h3 := h j k q h1 h2
      rw [List.getElem?_map, hw] at h3
      exact congrArg some (Option.some.inj h3).symm
theorem mix_get (is : List Nat) (ws w1 : va_W) (hl : is.length = w1.length) (k : Nat) (q : Nat × va_E) (h : (mix ws is w1)[k]? = some q) : (k ∉ is ∧ ws[k]? = some q) ∨ q ∈ w1 := by
  have h0 : (mixG 0 ws is w1)[k]? = some q := h
  rw [mixG_get] at h0
  cases hw : ws[k]? with
  | none => rw [hw] at h0; cases h0
  | some e =>
    rw [hw] at h0
    have h1 : (pick (0 + k) is w1).getD e = q := Option.some.inj h0
    rw [Nat.zero_add] at h1
    cases hp : pick k is w1 with
    | none =>
      rw [hp] at h1
      exact Or.inl ⟨pick_none is w1 k hl hp, congrArg some h1⟩
    | some q0 =>
      rw [hp] at h1
      obtain ⟨j, -, h2⟩ := pick_some is w1 k q0 hp
      have : q0 = q := h1
      exact Or.inr (this ▸ List.mem_of_getElem? h2)
theorem cut_at {is : List Nat} {ws w : va_W} (hs : is.map (fun i => ws[i]?) = w.map some) {k : Nat} {q : Nat × va_E} (hq : w[k]? = some q) : ∃ i, is[k]? = some i ∧ ws[i]? = some q := by
  have h1 : (is.map (fun i => ws[i]?))[k]? = some (some q) := by rw [hs, List.getElem?_map, hq]; rfl
  rw [List.getElem?_map] at h1
  cases hi : is[k]? with
  | none => rw [hi] at h1; cases h1
  | some i => rw [hi] at h1; exact ⟨i, rfl, Option.some.inj h1⟩
/-- behind a call: the caller's world with the callee's cells put back -/
theorem wo_mix {G : Gt} {A : Nat → Prop} {ws wc w1 : va_W} {H H1 : Heap} (hW : wo G A ws H) (isC : List Nat) (hC : isC.map (fun i => ws[i]?) = wc.map some)
    (hk : ∀ q : Nat, q < H.size → ¬ va_A wc H.size q → H1[q]? = H[q]?) (hf : w1.map Prod.fst = wc.map Prod.fst) (hP1 : va_P G.1 GB_cl w1 H1) : wo G A (mix ws isC w1) H1 := by
  obtain ⟨hP, hD⟩ := hW
  have hlen : isC.length = w1.length := by
    have h1 := congrArg List.length hC
    have h2 := congrArg List.length hf
    simp only [List.length_map] at h1 h2
    omega
  have hfst : (mix ws isC w1).map Prod.fst = ws.map Prod.fst := by
    refine mix_fst isC ws w1 (fun j i e hj he => ?_)
    have h1 : (w1.map Prod.fst)[j]? = some e.1 := by rw [List.getElem?_map, he]; rfl
    rw [hf, List.getElem?_map] at h1
    cases h2 : wc[j]? with
    | none => rw [h2] at h1; cases h1
    | some q0 =>
      rw [h2] at h1
      obtain ⟨i', h3, h4⟩ := cut_at hC h2
      rw [hj] at h3
      cases h3
      rw [List.getElem?_map, h4]
      exact h1
  refine ⟨fun k q hq => ?_, hD.mv hfst⟩
  rcases mix_get isC ws w1 hlen k q hq with ⟨h1, h2⟩ | h1
  · refine (hP k q h2).kept (hk q.1 (hP k q h2).lt (fun z => ?_))
    rcases z with ⟨j, e, hj⟩ | z
    · obtain ⟨i, h3, h4⟩ := cut_at hC hj
      have := hD.1 k i q (q.1, e) h2 h4 rfl
      subst this
      exact h1 (List.mem_of_getElem? h3)
    · exact absurd (hP k q h2).lt (Nat.not_lt.mpr z)
  · obtain ⟨j, hj⟩ := List.getElem?_of_mem h1
    exact hP1 j q hj
theorem wo.P {G : Gt} {A : Nat → Prop} {ws : va_W} {H : Heap} (h : wo G A ws H) : va_P G.1 GB_cl ws H := h.1
/-- what a class needs of the tables -/
def KC (ci : Nat) (R : String) (T : u_T) (N : Nat) (ty : Nat → FieldType) : Prop := (∀ w ∈ u_ws R T N, w ∈ wsG) ∧ GB_cl[ci]? = some (R, T, N) ∧ (∀ k, k < N → parseFieldDescriptor (T k).2.2.1 = some (ty k)) ∧ (∀ a, a < N → ∀ b, b < N → a ≠ b → (T a).2.1 ≠ (T b).2.1)
theorem kc0 : KC 0 RX0 TX0 4 tyX0 := ⟨inlX0, rfl, tyX0_ok, nmX0⟩
theorem kc1 : KC 1 RX1 TX1 6 tyX1 := ⟨inlX1, rfl, tyX1_ok, nmX1⟩
theorem kc2 : KC 2 RX2 TX2 3 tyX2 := ⟨inlX2, rfl, tyX2_ok, nmX2⟩
theorem kc3 : KC 3 RX3 TX3 3 tyX3 := ⟨inlX3, rfl, tyX3_ok, nmX3⟩
theorem kc4 : KC 4 RX4 TX4 12 tyX4 := ⟨inlX4, rfl, tyX4_ok, nmX4⟩
theorem kc5 : KC 5 RX5 TX5 6 tyX5 := ⟨inlX5, rfl, tyX5_ok, nmX5⟩
theorem kc6 : KC 6 RX6 TX6 9 tyX6 := ⟨inlX6, rfl, tyX6_ok, nmX6⟩
theorem kc7 : KC 7 RX7 TX7 22 tyX7 := ⟨inlX7, rfl, tyX7_ok, nmX7⟩
abbrev rmm (f o : Nat) : Room := { frames := f, cells := 0, slots := 0, locals := o }
def KB (y : MethodName) (by1 : ByteArray) (nA : Nat) (r1 : Option FieldType) (n : Nat) : Prop := Cond.instanceMethod y ∈ wsG ∧ Cond.selects y.cls y y ∈ wsG ∧ Cond.initialized y.cls ∈ wsG ∧ Cond.code y by1 nA r1 ∈ wsG ∧ (y.cls ≠ "java/lang/invoke/MethodHandle" ∧ y.cls ≠ "java/lang/invoke/VarHandle" ∧ (parseMethodDescriptor y.desc).map (fun d => d.parameters.length) = some n)
def KS (y : MethodName) (by1 : ByteArray) (nA : Nat) (r1 : Option FieldType) (n : Nat) : Prop := Cond.static y ∈ wsG ∧ Cond.initialized y.cls ∈ wsG ∧ Cond.code y by1 nA r1 ∈ wsG ∧ (y.cls ≠ "java/lang/invoke/MethodHandle" ∧ y.cls ≠ "java/lang/invoke/VarHandle" ∧ (parseMethodDescriptor y.desc).map (fun d => d.parameters.length) = some n)
theorem bl_narrow {v : Int32} (h : v = 0 ∨ v = 1) : narrow .boolean (.int v) = .int v := by rcases h with rfl | rfl <;> decide
theorem bl_fits {v : Int32} (h : v = 0 ∨ v = 1) : fits .boolean (.int v) = true := by rcases h with rfl | rfl <;> decide
theorem bl_or {x y : Int32} (h : x = 0 ∨ x = 1) (h2 : y = 0 ∨ y = 1) : x ||| y = 0 ∨ x ||| y = 1 := by rcases h with rfl | rfl <;> rcases h2 with rfl | rfl <;> decide
section Q1
variable {p : Program} {l : Launch} {e : Env} {R : Room} {s : State} {m : MethodId} {args : Array Value} {below : List Frame} {meth : Method} {c : Code} {H : Heap} {locs : List Loc} {cells slots : Nat} {Q : State → Prop}
variable {own : String} {cc : ByteArray} {nL : Nat} {c0 : Cond} {G : Gt} {A : Nat → Prop} {rt : Option FieldType} {pc : Nat} {ls : Array Slot} {rest : List Value} {ws : va_W} {a : Nat}
theorem Cx.hx (C : Cx p s m args meth c own cc nL c0 G A rt) : p.tables.exec = Jvm.exec := C.1.1
theorem Cx.hb (C : Cx p s m args meth c own cc nL c0 G A rt) : c.code = cc := C.1.2.1
theorem Cx.hts (C : Cx p s m args meth c own cc nL c0 G A rt) {w : Cond} (h : w ∈ wsG) : w.before args s = true := C.1.2.2.2.2 w (List.mem_cons_of_mem _ h)
theorem q_get (C : Cx p s m args meth c own cc nL c0 G A rt) {ci N : Nat} {Rn : String} {T : u_T} {ty : Nat → FieldType} (hc : KC ci Rn T N ty) (hW : wo G A ws H) (q0 : Nat) {fs : List Value} (he : ws[q0]? = some (a, .inr (ci, fs))) (k : Nat) (hk : k < N) {ref : String} {index : Nat}
    (hl : Cond.fieldLink own index ref (T k).2.1 (T k).2.2.1 ∈ wsG) (hr : (T k).1 = ref) {v : Value} (hv : fs[k]? = some v) (hdg : decode cc pc = .ok (.getfield index, 3))
    (kk : W p l e R s m args below meth c H locs cells slots Q (F0 m (pc + 3) ls (v :: rest))) : W p l e R s m args below meth c H locs cells slots Q (F0 m pc ls (.ref a :: rest)) :=
  va_get (D := G.1) (cl := GB_cl) (ci := ci) (C := Rn) (T := T) (N := N) C.1.1 C.1.2.1 C.1.2.2.2.2 (fun w h => List.mem_cons_of_mem _ (hc.1 w h)) C.1.2.2.2.1 C.2.1 hW.1 q0 he hc.2.1 k hk (C.hts hl) (fun _ h => hr ▸ h) hv hdg kk
theorem q_getN (C : Cx p s m args meth c own cc nL c0 G A rt) {ci N : Nat} {Rn : String} {T : u_T} {ty : Nat → FieldType} (hc : KC ci Rn T N ty) (hW : wo G A ws H) (q0 : Nat) {fs : List Value} (he : ws[q0]? = some (a, .inr (ci, fs))) (k : Nat) (hk : k < N) {ref host : String} {index : Nat}
    (hl : Cond.fieldLinkNest own index ref (T k).2.1 (T k).2.2.1 host ∈ nsL) (hr : (T k).1 = ref) {v : Value} (hv : fs[k]? = some v) (hdg : decode cc pc = .ok (.getfield index, 3))
    (kk : W p l e R s m args below meth c H locs cells slots Q (F0 m (pc + 3) ls (v :: rest))) : W p l e R s m args below meth c H locs cells slots Q (F0 m pc ls (.ref a :: rest)) :=
  va_getN (D := G.1) (cl := GB_cl) (ci := ci) (C := Rn) (T := T) (N := N) C.1.1 C.1.2.1 C.1.2.2.2.2 (fun w h => List.mem_cons_of_mem _ (hc.1 w h)) C.1.2.2.2.1 C.2.1 hW.1 q0 he hc.2.1 k hk (va_Nw.use rfl (C.2.2.1.1 _ hl)) (fun _ h => hr ▸ h) hv hdg kk
theorem q_put (C : Cx p s m args meth c own cc nL c0 G A rt) {ci N : Nat} {Rn : String} {T : u_T} {ty : Nat → FieldType} (hc : KC ci Rn T N ty) (hW : wo G A ws H) (hS : va_S A s.heap H locs) (q0 : Nat) {fs : List Value} (he : ws[q0]? = some (a, .inr (ci, fs))) (k : Nat) (hk : k < N) {ref : String} {index : Nat}
    (hl : Cond.fieldLink own index ref (T k).2.1 (T k).2.2.1 ∈ wsG) (hr : (T k).1 = ref) (hfin : (T k).2.2.2 = false) {v : Value} (hn : narrow (ty k) v = v) (hfit : fits (ty k) v = true) (hlen : k < fs.length) (hdg : decode cc pc = .ok (.putfield index, 3))
    (kk : ∀ (H1 : Heap) (locs1 : List Loc), wo G A (ws.set q0 (a, .inr (ci, fs.set k v))) H1 → va_S A s.heap H1 locs1 → W p l e R s m args below meth c H1 locs1 cells slots Q (F0 m (pc + 3) ls rest)) : W p l e R s m args below meth c H locs cells slots Q (F0 m pc ls (v :: .ref a :: rest)) :=
  va_put (D := G.1) (cl := GB_cl) (ci := ci) (C := Rn) (T := T) (N := N) C.1.1 C.1.2.1 C.1.2.2.2.2 (fun w h => List.mem_cons_of_mem _ (hc.1 w h)) ty hc.2.2.1 hc.2.2.2 C.1.2.2.2.1 C.2.1 hW.1 hW.2 hS q0 he hc.2.1 k hk (C.hts hl) (fun _ h => hr ▸ h) hfin (hc.2.2.1 k hk) hn hfit hlen hdg (fun H1 l1 h1 h2 h3 => kk H1 l1 ⟨h1, h2⟩ h3)
theorem q_putN (C : Cx p s m args meth c own cc nL c0 G A rt) {ci N : Nat} {Rn : String} {T : u_T} {ty : Nat → FieldType} (hc : KC ci Rn T N ty) (hW : wo G A ws H) (hS : va_S A s.heap H locs) (q0 : Nat) {fs : List Value} (he : ws[q0]? = some (a, .inr (ci, fs))) (k : Nat) (hk : k < N) {ref host : String} {index : Nat}
    (hl : Cond.fieldLinkNest own index ref (T k).2.1 (T k).2.2.1 host ∈ nsL) (hr : (T k).1 = ref) (hfin : (T k).2.2.2 = false) {v : Value} (hn : narrow (ty k) v = v) (hfit : fits (ty k) v = true) (hlen : k < fs.length) (hdg : decode cc pc = .ok (.putfield index, 3))
    (kk : ∀ (H1 : Heap) (locs1 : List Loc), wo G A (ws.set q0 (a, .inr (ci, fs.set k v))) H1 → va_S A s.heap H1 locs1 → W p l e R s m args below meth c H1 locs1 cells slots Q (F0 m (pc + 3) ls rest)) : W p l e R s m args below meth c H locs cells slots Q (F0 m pc ls (v :: .ref a :: rest)) :=
  va_putN (D := G.1) (cl := GB_cl) (ci := ci) (C := Rn) (T := T) (N := N) C.1.1 C.1.2.1 C.1.2.2.2.2 (fun w h => List.mem_cons_of_mem _ (hc.1 w h)) ty hc.2.2.1 hc.2.2.2 C.1.2.2.2.1 C.2.1 hW.1 hW.2 hS q0 he hc.2.1 k hk (va_Nw.use rfl (C.2.2.1.1 _ hl)) (fun _ h => hr ▸ h) hfin (hc.2.2.1 k hk) hn hfit hlen hdg (fun H1 l1 h1 h2 h3 => kk H1 l1 ⟨h1, h2⟩ h3)
theorem q_iald (C : Cx p s m args meth c own cc nL c0 G A rt) (hW : wo G A ws H) (q0 : Nat) {n : Nat} {f : Nat → Int32} (ha : ws[q0]? = some (a, .inl (G.2.1, n, .inl f))) {i : Int32} (hin : vp_in i n) (hdg : decode cc pc = .ok (.iaload, 1))
    (kk : W p l e R s m args below meth c H locs cells slots Q (F0 m (pc + 1) ls (.int (f i.toNatClampNeg) :: rest))) : W p l e R s m args below meth c H locs cells slots Q (F0 m pc ls (.int i :: .ref a :: rest)) :=
  va_iald (D := G.1) (cl := GB_cl) (tys := tyG G) C.1.1 C.1.2.1 C.2.1 hW.1 q0 0 ha rfl hin hdg kk
theorem q_bald (C : Cx p s m args meth c own cc nL c0 G A rt) (hW : wo G A ws H) (q0 : Nat) {n : Nat} {f : Nat → Int32} (ha : ws[q0]? = some (a, .inl (G.2.2.1, n, .inl f))) {i : Int32} (hin : vp_in i n) (hdg : decode cc pc = .ok (.baload, 1))
    (kk : W p l e R s m args below meth c H locs cells slots Q (F0 m (pc + 1) ls (.int (f i.toNatClampNeg) :: rest))) : W p l e R s m args below meth c H locs cells slots Q (F0 m pc ls (.int i :: .ref a :: rest)) :=
  va_bald (D := G.1) (cl := GB_cl) (tys := tyG G) C.1.1 C.1.2.1 C.2.1 hW.1 q0 1 ha rfl hin hdg kk
theorem q_iast (C : Cx p s m args meth c own cc nL c0 G A rt) (hW : wo G A ws H) (hS : va_S A s.heap H locs) (q0 : Nat) {n : Nat} {f : Nat → Int32} (ha : ws[q0]? = some (a, .inl (G.2.1, n, .inl f))) {i x : Int32} (hin : vp_in i n) (hdg : decode cc pc = .ok (.iastore, 1))
    (kk : ∀ (H1 : Heap) (locs1 : List Loc), wo G A (ws.set q0 (a, .inl (G.2.1, n, .inl (upd f i.toNatClampNeg x)))) H1 → va_S A s.heap H1 locs1 → W p l e R s m args below meth c H1 locs1 cells slots Q (F0 m (pc + 1) ls rest)) : W p l e R s m args below meth c H locs cells slots Q (F0 m pc ls (.int x :: .int i :: .ref a :: rest)) :=
  va_iast (D := G.1) (cl := GB_cl) (tys := tyG G) C.1.1 C.1.2.1 C.2.1 hW.1 hW.2 hS q0 0 ha rfl hin hdg (fun H1 l1 h1 h2 h3 => kk H1 l1 ⟨h1, h2⟩ h3)
theorem q_bast (C : Cx p s m args meth c own cc nL c0 G A rt) (hW : wo G A ws H) (hS : va_S A s.heap H locs) (q0 : Nat) {n : Nat} {f : Nat → Int32} (ha : ws[q0]? = some (a, .inl (G.2.2.1, n, .inl f))) {i x : Int32} (hin : vp_in i n) (hdg : decode cc pc = .ok (.bastore, 1))
    (kk : ∀ (H1 : Heap) (locs1 : List Loc), wo G A (ws.set q0 (a, .inl (G.2.2.1, n, .inl (upd f i.toNatClampNeg (vp_nar .byte x))))) H1 → va_S A s.heap H1 locs1 → W p l e R s m args below meth c H1 locs1 cells slots Q (F0 m (pc + 1) ls rest)) : W p l e R s m args below meth c H locs cells slots Q (F0 m pc ls (.int x :: .int i :: .ref a :: rest)) :=
  va_bast (D := G.1) (cl := GB_cl) (tys := tyG G) C.1.1 C.1.2.1 C.2.1 hW.1 hW.2 hS q0 1 ha rfl hin hdg (fun H1 l1 h1 h2 h3 => kk H1 l1 ⟨h1, h2⟩ h3)
theorem q_iret {S : Type} {w' : S → va_W} {post : Int32 → S → Prop} {ty : FieldType} (C : Cx p s m args meth c own cc nL c0 G A (some ty)) (u : S) {v : Int32} (hn : narrow ty (.int v) = .int v) (hW : wo G A (w' u) H) (hS : va_S A s.heap H locs) (hv : post v u) (hdg : decode cc pc = .ok (.ireturn, 1)) :
    W p l e R s m args below meth c H locs 0 0 (MQ below (va_Qi post (fun u t => va_P G.1 GB_cl (w' u) t.heap) A) args s 0 0 A) (F0 m pc ls [.int v]) :=
  W.zret (ty := ty) C.1.1 C.1.2.1 C.2.2.2.1 hn (fun t ht _ => ⟨⟨v, u, rfl, hv, by show va_P G.1 GB_cl (w' u) t.heap; rw [ht]; exact hW.1⟩, hS.F ht⟩) hS.2.2 hdg C.2.2.2.2.1
theorem q_vret {S : Type} {w' : S → va_W} {post : S → Prop} (C : Cx p s m args meth c own cc nL c0 G A none) (u : S) (hW : wo G A (w' u) H) (hS : va_S A s.heap H locs) (hv : post u) (hdg : decode cc pc = .ok (.return_, 1)) :
    W p l e R s m args below meth c H locs 0 0 (MQ below (va_Qv post (fun u t => va_P G.1 GB_cl (w' u) t.heap) A) args s 0 0 A) (F0 m pc ls []) :=
  W.vret C.1.1 C.1.2.1 C.2.2.2.1 (fun t ht _ => ⟨⟨u, rfl, hv, by show va_P G.1 GB_cl (w' u) t.heap; rw [ht]; exact hW.1⟩, hS.F ht⟩) hS.2.2 hdg C.2.2.2.2.1
theorem good_V {idx nA : Nat} {Cn : String} {y : MethodName} {by1 : ByteArray} {r1 : Option FieldType} (h1 : Cond.methodLink own idx y ∈ wsG) (h2 : Cond.instanceMethod y ∈ wsG) (h3 : Cond.selects Cn y y ∈ wsG) (h4 : Cond.initialized Cn ∈ wsG) (h5 : Cond.code y by1 nA r1 ∈ wsG) : GoodIn (c0 :: wsG) (wsV own idx Cn y (Cond.code y by1 nA r1 :: wsG)) := by
  intro w hw
  have hg : ∀ w ∈ wsG, goodWord w = true := wsG_good
  have hm : w ∈ wsG := by
    simp only [wsV, List.cons_append, List.nil_append, List.mem_cons] at hw
    rcases hw with rfl | rfl | rfl | rfl | rfl | hw
    · exact h1
    · exact h2
    · exact h3
    · exact h4
    · exact h5
    · exact hw
  exact ⟨List.mem_cons_of_mem _ hm, good_of_word (hg w hm)⟩
theorem good_S {idx nA : Nat} {y : MethodName} {by1 : ByteArray} {r1 : Option FieldType} (h1 : Cond.methodLink own idx y ∈ wsG) (h2 : Cond.static y ∈ wsG) (h4 : Cond.initialized y.cls ∈ wsG) (h5 : Cond.code y by1 nA r1 ∈ wsG) : GoodIn (c0 :: wsG) (va_wsS own idx y (Cond.code y by1 nA r1 :: wsG)) := by
  intro w hw
  have hg : ∀ w ∈ wsG, goodWord w = true := wsG_good
  have hm : w ∈ wsG := by
    simp only [va_wsS, List.cons_append, List.nil_append, List.mem_cons] at hw
    rcases hw with rfl | rfl | rfl | rfl | hw
    · exact h1
    · exact h2
    · exact h4
    · exact h5
    · exact hw
  exact ⟨List.mem_cons_of_mem _ hm, good_of_word (hg w hm)⟩
theorem good_N {nA : Nat} {y : MethodName} {by1 : ByteArray} {r1 : Option FieldType} (h5 : Cond.code y by1 nA r1 ∈ wsG) : GoodIn (c0 :: wsG) (Cond.code y by1 nA r1 :: wsG) := by
  intro w hw
  have hm : w ∈ wsG := by
    rcases List.mem_cons.mp hw with rfl | hw
    · exact h5
    · exact hw
  exact ⟨List.mem_cons_of_mem _ hm, good_of_word (wsG_good w hm)⟩
/-- what a callee's start asks, out of the caller's walk -/
theorem pt_of (C : Cx p s m args meth c own cc nL c0 G A rt) {wc : va_W} (hW : wo G A ws H) (hS : va_S A s.heap H locs) (isC : List Nat) (hn : va_nd isC = true) (hC : isC.map (fun i => ws[i]?) = wc.map some) (As : List Value) {U : State} (hU : U.heap = H) (hWm : s.WarmedH U.vm) : Pt0 G As wc H.size As.toArray U := by
  refine ⟨rfl, by rw [hU], ?_, ?_, va_K.moved hWm.alike C.2.1, ?_⟩
  · rw [hU]
    exact XF.warm hWm ((C.2.2.1.kept (fun a h1 h2 => hS.2.1 a h1 h2)).narrow (va_free hW.2 hS C.2.2.2.2.2 isC hC))
  · rw [hU]
    exact fun k q hk => by
      obtain ⟨i, -, hi⟩ := cut_at hC hk
      exact hW.1 i q hi
  · exact (hW.2.sub isC hn hC).weaken (fun _ _ _ _ => trivial)
/-- a class of the call's receiver -/
theorem recv_C (C : Cx p s m args meth c own cc nL c0 G A rt) (hW : wo G A ws H) {ci N q0 : Nat} {Rn : String} {T : u_T} {ty : Nat → FieldType} (hc : KC ci Rn T N ty) {fs : List Value} (he : ws[q0]? = some (a, .inr (ci, fs))) : ∃ cell : Cell, H[a]? = some cell ∧ cell.vm.isStatics = false ∧ s.vm.findClass Rn = some cell.cls :=
  va_recv C.2.1 hW.1 hc.2.1 he
theorem sw_row {dflt lo hi : Int} {offs : Array Int} {len : Nat} {x : Int32} {tgt N : Nat} (hexec : p.tables.exec = Jvm.exec) (hb : c.code = cc) (hdg : decode cc pc = .ok (.tableswitch dflt lo hi offs, len)) (hN : hi - lo + 1 = (N : Int)) (hall : ∀ a : Nat, a < N → offs[a]? = some dflt ∨ ¬ x.toInt = lo + a) (ht : (pc : Int) + dflt = (tgt : Int))
    (k : W p l e R s m args below meth c H locs cells slots Q (F0 m tgt ls rest)) : W p l e R s m args below meth c H locs cells slots Q (F0 m pc ls (.int x :: rest)) := by
  by_cases h : x.toInt < lo ∨ hi < x.toInt
  · exact lv_tableOut hexec hb hdg h ht k
  · have h1 : ¬ x.toInt < lo := fun z => h (Or.inl z)
    have h2 : ¬ hi < x.toInt := fun z => h (Or.inr z)
    rcases hall (x.toInt - lo).toNat (by omega) with z | z
    · exact lv_tableIn hexec hb hdg h1 h2 z ht k
    · exact absurd (by omega) z
theorem lk_ne {x k : Int32} {n : Int} (h : ¬ x = k) (hk : k.toInt = n) : ¬ (n = x.toInt) := fun e => h (Int32.toInt_inj.mp (e.symm.trans hk.symm))
section CALLS
variable {y : MethodName} {by1 : ByteArray} {nA index n : Nat} {rm : Room} {As : List Value} {wc : va_W} {S : Type} {w' : S → va_W}
/-- a call of a method of an object, an int comes back -/
theorem q_callV (C : Cx p s m args meth c own cc nL c0 G A rt) {post : Int32 → S → Prop} {ty : FieldType} (hM : CI l G y (Cond.code y by1 nA (some ty) :: wsG) rm (.ref a :: As) wc w' post)
    (h1 : Cond.methodLink own index y ∈ wsG) (hB : KB y by1 nA (some ty) n) (hn : As.length = n) (hR : (rm.cells = 0 ∧ rm.slots = 0) ∧ rm.frames + 1 ≤ R.frames ∧ 8 + (nA + 11) + rm.locals ≤ R.locals)
    (hW : wo G A ws H) (hS : va_S A s.heap H locs) (isC : List Nat) (hnd : va_nd isC = true) (hC : isC.map (fun i => ws[i]?) = wc.map some) {ci N q0 : Nat} {T : u_T} {tyf : Nat → FieldType} (hc : KC ci y.cls T N tyf) {fs : List Value} (he : ws[q0]? = some (a, .inr (ci, fs)))
    (hsz : ls.size = nL) {st : List Value} (hst : st = As.reverse ++ .ref a :: rest) (hroom : (rest.map fun v => v.category).sum ≤ 8) (hdg : decode cc pc = .ok (.invokevirtual index, 3)) (hcs : cells ≤ R.cells ∧ slots ≤ R.slots)
    (kk : ∀ (r : Int32) (u : S) (H1 : Heap) (locs1 : List Loc), post r u → wo G A (mix ws isC (w' u)) H1 → va_S A s.heap H1 locs1 → W p l e R s m args below meth c H1 locs1 cells slots Q (F0 m (pc + 3) ls (.int r :: rest))) : W p l e R s m args below meth c H locs cells slots Q (F0 m pc ls st) := by
  obtain ⟨h2, h3, h4, h5, hy⟩ := hB
  have hF := va_free hW.2 hS C.2.2.2.2.2 isC hC
  subst hst
  refine va_calli (va_runV (rest := rest) C.1 (hM.2 H.size) (cwV n C.1.2.2.2.2 (good_V h1 h2 h3 h4 h5) rfl hR.1.1 hR.1.2 ⟨rfl, hy⟩ hR.2) ⟨Pt0.blind, recv_C C hW hc he, fun U hU hWm => pt_of C hW hS isC hnd hC (.ref a :: As) hU hWm⟩ rfl hn hsz rfl (lv_room hroom) hdg hcs) hS (fun q _ h => hF q h) hF (fun r u t H1 locs1 ht hvm hw hB hz hk hS1 => ?_)
  rw [ht] at hB
  exact kk r u H1 locs1 hw (wo_mix hW isC hC hk (hM.1 u) hB) hS1
theorem q_callVv (C : Cx p s m args meth c own cc nL c0 G A rt) {post : S → Prop} (hM : CV l G y (Cond.code y by1 nA none :: wsG) rm (.ref a :: As) wc w' post)
    (h1 : Cond.methodLink own index y ∈ wsG) (hB : KB y by1 nA none n) (hn : As.length = n) (hR : (rm.cells = 0 ∧ rm.slots = 0) ∧ rm.frames + 1 ≤ R.frames ∧ 8 + (nA + 11) + rm.locals ≤ R.locals)
    (hW : wo G A ws H) (hS : va_S A s.heap H locs) (isC : List Nat) (hnd : va_nd isC = true) (hC : isC.map (fun i => ws[i]?) = wc.map some) {ci N q0 : Nat} {T : u_T} {tyf : Nat → FieldType} (hc : KC ci y.cls T N tyf) {fs : List Value} (he : ws[q0]? = some (a, .inr (ci, fs)))
    (hsz : ls.size = nL) {st : List Value} (hst : st = As.reverse ++ .ref a :: rest) (hroom : (rest.map fun v => v.category).sum ≤ 8) (hdg : decode cc pc = .ok (.invokevirtual index, 3)) (hcs : cells ≤ R.cells ∧ slots ≤ R.slots)
    (kk : ∀ (u : S) (H1 : Heap) (locs1 : List Loc), post u → wo G A (mix ws isC (w' u)) H1 → va_S A s.heap H1 locs1 → W p l e R s m args below meth c H1 locs1 cells slots Q (F0 m (pc + 3) ls rest)) : W p l e R s m args below meth c H locs cells slots Q (F0 m pc ls st) := by
  obtain ⟨h2, h3, h4, h5, hy⟩ := hB
  have hF := va_free hW.2 hS C.2.2.2.2.2 isC hC
  subst hst
  refine va_callv (va_runV (rest := rest) C.1 (hM.2 H.size) (cwV n C.1.2.2.2.2 (good_V h1 h2 h3 h4 h5) rfl hR.1.1 hR.1.2 ⟨rfl, hy⟩ hR.2) ⟨Pt0.blind, recv_C C hW hc he, fun U hU hWm => pt_of C hW hS isC hnd hC (.ref a :: As) hU hWm⟩ rfl hn hsz rfl (lv_room hroom) hdg hcs) hS (fun q _ h => hF q h) hF (fun u t H1 locs1 ht hvm hw hB hz hk hS1 => ?_)
  rw [ht] at hB
  exact kk u H1 locs1 hw (wo_mix hW isC hC hk (hM.1 u) hB) hS1
/-- the same of a nest mate's private method -/
theorem q_callN (C : Cx p s m args meth c own cc nL c0 G A rt) {post : Int32 → S → Prop} {ty : FieldType} {host : String} (hM : CI l G y (Cond.code y by1 nA (some ty) :: wsG) rm (.ref a :: As) wc w' post)
    (h1 : Cond.methodLinkNest own index y host ∈ nsL) (hB : KB y by1 nA (some ty) n) (hn : As.length = n) (hR : (rm.cells = 0 ∧ rm.slots = 0) ∧ rm.frames + 1 ≤ R.frames ∧ 8 + (nA + 11) + rm.locals ≤ R.locals)
    (hW : wo G A ws H) (hS : va_S A s.heap H locs) (isC : List Nat) (hnd : va_nd isC = true) (hC : isC.map (fun i => ws[i]?) = wc.map some) {ci N q0 : Nat} {T : u_T} {tyf : Nat → FieldType} (hc : KC ci y.cls T N tyf) {fs : List Value} (he : ws[q0]? = some (a, .inr (ci, fs)))
    (hsz : ls.size = nL) {st : List Value} (hst : st = As.reverse ++ .ref a :: rest) (hroom : (rest.map fun v => v.category).sum ≤ 8) (hdg : decode cc pc = .ok (.invokevirtual index, 3)) (hcs : cells ≤ R.cells ∧ slots ≤ R.slots)
    (kk : ∀ (r : Int32) (u : S) (H1 : Heap) (locs1 : List Loc), post r u → wo G A (mix ws isC (w' u)) H1 → va_S A s.heap H1 locs1 → W p l e R s m args below meth c H1 locs1 cells slots Q (F0 m (pc + 3) ls (.int r :: rest))) : W p l e R s m args below meth c H locs cells slots Q (F0 m pc ls st) := by
  obtain ⟨h2, h3, h4, h5, hy⟩ := hB
  have hF := va_free hW.2 hS C.2.2.2.2.2 isC hC
  subst hst
  refine va_calli (va_runVN (rest := rest) C.1 (hM.2 H.size) ⟨va_cnB n C.1.2.2.2.2 (good_N h5) rfl hR.1.1 hR.1.2 (C.2.2.1.1 _ h1) (C.hts h4) hy hR.2, C.hts h2, C.hts h3⟩ ⟨Pt0.blind, recv_C C hW hc he, fun U hU hWm => pt_of C hW hS isC hnd hC (.ref a :: As) hU hWm⟩ rfl hn hsz rfl (lv_room hroom) hdg hcs) hS (fun q _ h => hF q h) hF (fun r u t H1 locs1 ht hvm hw hB hz hk hS1 => ?_)
  rw [ht] at hB
  exact kk r u H1 locs1 hw (wo_mix hW isC hC hk (hM.1 u) hB) hS1
theorem q_callNv (C : Cx p s m args meth c own cc nL c0 G A rt) {post : S → Prop} {host : String} (hM : CV l G y (Cond.code y by1 nA none :: wsG) rm (.ref a :: As) wc w' post)
    (h1 : Cond.methodLinkNest own index y host ∈ nsL) (hB : KB y by1 nA none n) (hn : As.length = n) (hR : (rm.cells = 0 ∧ rm.slots = 0) ∧ rm.frames + 1 ≤ R.frames ∧ 8 + (nA + 11) + rm.locals ≤ R.locals)
    (hW : wo G A ws H) (hS : va_S A s.heap H locs) (isC : List Nat) (hnd : va_nd isC = true) (hC : isC.map (fun i => ws[i]?) = wc.map some) {ci N q0 : Nat} {T : u_T} {tyf : Nat → FieldType} (hc : KC ci y.cls T N tyf) {fs : List Value} (he : ws[q0]? = some (a, .inr (ci, fs)))
    (hsz : ls.size = nL) {st : List Value} (hst : st = As.reverse ++ .ref a :: rest) (hroom : (rest.map fun v => v.category).sum ≤ 8) (hdg : decode cc pc = .ok (.invokevirtual index, 3)) (hcs : cells ≤ R.cells ∧ slots ≤ R.slots)
    (kk : ∀ (u : S) (H1 : Heap) (locs1 : List Loc), post u → wo G A (mix ws isC (w' u)) H1 → va_S A s.heap H1 locs1 → W p l e R s m args below meth c H1 locs1 cells slots Q (F0 m (pc + 3) ls rest)) : W p l e R s m args below meth c H locs cells slots Q (F0 m pc ls st) := by
  obtain ⟨h2, h3, h4, h5, hy⟩ := hB
  have hF := va_free hW.2 hS C.2.2.2.2.2 isC hC
  subst hst
  refine va_callv (va_runVN (rest := rest) C.1 (hM.2 H.size) ⟨va_cnB n C.1.2.2.2.2 (good_N h5) rfl hR.1.1 hR.1.2 (C.2.2.1.1 _ h1) (C.hts h4) hy hR.2, C.hts h2, C.hts h3⟩ ⟨Pt0.blind, recv_C C hW hc he, fun U hU hWm => pt_of C hW hS isC hnd hC (.ref a :: As) hU hWm⟩ rfl hn hsz rfl (lv_room hroom) hdg hcs) hS (fun q _ h => hF q h) hF (fun u t H1 locs1 ht hvm hw hB hz hk hS1 => ?_)
  rw [ht] at hB
  exact kk u H1 locs1 hw (wo_mix hW isC hC hk (hM.1 u) hB) hS1
/-- a call of a static method that asks for no cell -/
theorem mix_nil {ws w1 : va_W} : mix ws [] w1 = ws := by
  apply List.ext_getElem?
  intro k
  show (mixG 0 ws [] w1)[k]? = _
  rw [mixG_get]
  cases hw : ws[k]? with
  | none => rfl
  | some e => cases w1 <;> rfl
theorem q_callS (C : Cx p s m args meth c own cc nL c0 G A rt) {post : Int32 → S → Prop} {ty : FieldType} (hM : CI l G y (Cond.code y by1 nA (some ty) :: wsG) rm As [] w' post)
    (h1 : Cond.methodLink own index y ∈ wsG) (hB : KS y by1 nA (some ty) n) (hn : As.length = n) (hR : (rm.cells = 0 ∧ rm.slots = 0) ∧ rm.frames + 1 ≤ R.frames ∧ 8 + (nA + 11) + rm.locals ≤ R.locals)
    (hW : wo G A ws H) (hS : va_S A s.heap H locs)
    (hsz : ls.size = nL) {st : List Value} (hst : st = As.reverse ++ rest) (hroom : (rest.map fun v => v.category).sum ≤ 8) (hdg : decode cc pc = .ok (.invokestatic index, 3)) (hcs : cells ≤ R.cells ∧ slots ≤ R.slots)
    (kk : ∀ (r : Int32) (u : S) (H1 : Heap) (locs1 : List Loc), post r u → wo G A ws H1 → va_S A s.heap H1 locs1 → W p l e R s m args below meth c H1 locs1 cells slots Q (F0 m (pc + 3) ls (.int r :: rest))) : W p l e R s m args below meth c H locs cells slots Q (F0 m pc ls st) := by
  obtain ⟨h2, h4, h5, hy⟩ := hB
  have hC : ([] : List Nat).map (fun i => ws[i]?) = ([] : va_W).map some := rfl
  have hF := va_free hW.2 hS C.2.2.2.2.2 [] hC
  subst hst
  refine va_calli (va_runS (rest := rest) C.1 (hM.2 H.size) (va_cwS n C.1.2.2.2.2 (good_S h1 h2 h4 h5) rfl hR.1.1 hR.1.2 hy hR.2) ⟨Pt0.blind, fun U hU hWm => pt_of C hW hS [] rfl hC As hU hWm⟩ rfl hn hsz rfl (lv_room hroom) hdg hcs) hS (fun q _ h => hF q h) hF (fun r u t H1 locs1 ht hvm hw hB hz hk hS1 => ?_)
  rw [ht] at hB
  have h9 := wo_mix (w1 := w' u) hW [] hC hk (hM.1 u) hB
  rw [mix_nil] at h9
  exact kk r u H1 locs1 hw h9 hS1
theorem q_callSN (C : Cx p s m args meth c own cc nL c0 G A rt) {post : Int32 → S → Prop} {ty : FieldType} {host : String} (hM : CI l G y (Cond.code y by1 nA (some ty) :: wsG) rm As [] w' post)
    (h1 : Cond.methodLinkNest own index y host ∈ nsL) (hB : KS y by1 nA (some ty) n) (hn : As.length = n) (hR : (rm.cells = 0 ∧ rm.slots = 0) ∧ rm.frames + 1 ≤ R.frames ∧ 8 + (nA + 11) + rm.locals ≤ R.locals)
    (hW : wo G A ws H) (hS : va_S A s.heap H locs)
    (hsz : ls.size = nL) {st : List Value} (hst : st = As.reverse ++ rest) (hroom : (rest.map fun v => v.category).sum ≤ 8) (hdg : decode cc pc = .ok (.invokestatic index, 3)) (hcs : cells ≤ R.cells ∧ slots ≤ R.slots)
    (kk : ∀ (r : Int32) (u : S) (H1 : Heap) (locs1 : List Loc), post r u → wo G A ws H1 → va_S A s.heap H1 locs1 → W p l e R s m args below meth c H1 locs1 cells slots Q (F0 m (pc + 3) ls (.int r :: rest))) : W p l e R s m args below meth c H locs cells slots Q (F0 m pc ls st) := by
  obtain ⟨h2, h4, h5, hy⟩ := hB
  have hC : ([] : List Nat).map (fun i => ws[i]?) = ([] : va_W).map some := rfl
  have hF := va_free hW.2 hS C.2.2.2.2.2 [] hC
  subst hst
  refine va_calli (va_runSN (rest := rest) C.1 (hM.2 H.size) ⟨va_cnB n C.1.2.2.2.2 (good_N h5) rfl hR.1.1 hR.1.2 (C.2.2.1.1 _ h1) (C.hts h4) hy hR.2, C.hts h2, trivial⟩ ⟨Pt0.blind, fun U hU hWm => pt_of C hW hS [] rfl hC As hU hWm⟩ rfl hn hsz rfl (lv_room hroom) hdg hcs) hS (fun q _ h => hF q h) hF (fun r u t H1 locs1 ht hvm hw hB hz hk hS1 => ?_)
  rw [ht] at hB
  have h9 := wo_mix (w1 := w' u) hW [] hC hk (hM.1 u) hB
  rw [mix_nil] at h9
  exact kk r u H1 locs1 hw h9 hS1
/-- a method of a text constant -/
theorem q_callVs (C : Cx p s m args meth c own cc nL c0 G A rt) {post : Int32 → S → Prop} {ty : FieldType} {i : Nat} (hM : CI l G y (Cond.code y by1 nA (some ty) :: wsG) rm (.ref (G.2.2.2.2.1 i) :: As) [] w' post)
    (h1 : Cond.methodLink own index y ∈ wsG) (hB : KB y by1 nA (some ty) n) (hn : As.length = n) (hR : (rm.cells = 0 ∧ rm.slots = 0) ∧ rm.frames + 1 ≤ R.frames ∧ 8 + (nA + 11) + rm.locals ≤ R.locals)
    (hW : wo G A ws H) (hS : va_S A s.heap H locs) (hi : i < 2) (hcl : y.cls = "java/lang/String")
    (hsz : ls.size = nL) {st : List Value} (hst : st = As.reverse ++ .ref (G.2.2.2.2.1 i) :: rest) (hroom : (rest.map fun v => v.category).sum ≤ 8) (hdg : decode cc pc = .ok (.invokevirtual index, 3)) (hcs : cells ≤ R.cells ∧ slots ≤ R.slots)
    (kk : ∀ (r : Int32) (u : S) (H1 : Heap) (locs1 : List Loc), post r u → wo G A ws H1 → va_S A s.heap H1 locs1 → W p l e R s m args below meth c H1 locs1 cells slots Q (F0 m (pc + 3) ls (.int r :: rest))) : W p l e R s m args below meth c H locs cells slots Q (F0 m pc ls st) := by
  obtain ⟨h2, h3, h4, h5, hy⟩ := hB
  have hC : ([] : List Nat).map (fun i => ws[i]?) = ([] : va_W).map some := rfl
  have hF := va_free hW.2 hS C.2.2.2.2.2 [] hC
  subst hst
  refine va_calli (va_runV (rest := rest) C.1 (hM.2 H.size) (cwV n C.1.2.2.2.2 (good_V h1 h2 h3 h4 h5) rfl hR.1.1 hR.1.2 ⟨rfl, hy⟩ hR.2) ⟨Pt0.blind, hcl ▸ vk_recv C.2.2.1.2.1.2.2.1 hi hS, fun U hU hWm => pt_of C hW hS [] rfl hC _ hU hWm⟩ rfl hn hsz rfl (lv_room hroom) hdg hcs) hS (fun q _ h => hF q h) hF (fun r u t H1 locs1 ht hvm hw hB hz hk hS1 => ?_)
  rw [ht] at hB
  have h9 := wo_mix (w1 := w' u) hW [] hC hk (hM.1 u) hB
  rw [mix_nil] at h9
  exact kk r u H1 locs1 hw h9 hS1
/-- a static method over cells, nothing comes back -/
theorem q_callSCv (C : Cx p s m args meth c own cc nL c0 G A rt) {post : S → Prop} (hM : CV l G y (Cond.code y by1 nA none :: wsG) rm As wc w' post)
    (h1 : Cond.methodLink own index y ∈ wsG) (hB : KS y by1 nA none n) (hn : As.length = n) (hR : (rm.cells = 0 ∧ rm.slots = 0) ∧ rm.frames + 1 ≤ R.frames ∧ 8 + (nA + 11) + rm.locals ≤ R.locals)
    (hW : wo G A ws H) (hS : va_S A s.heap H locs) (isC : List Nat) (hnd : va_nd isC = true) (hC : isC.map (fun i => ws[i]?) = wc.map some)
    (hsz : ls.size = nL) {st : List Value} (hst : st = As.reverse ++ rest) (hroom : (rest.map fun v => v.category).sum ≤ 8) (hdg : decode cc pc = .ok (.invokestatic index, 3)) (hcs : cells ≤ R.cells ∧ slots ≤ R.slots)
    (kk : ∀ (u : S) (H1 : Heap) (locs1 : List Loc), post u → wo G A (mix ws isC (w' u)) H1 → va_S A s.heap H1 locs1 → W p l e R s m args below meth c H1 locs1 cells slots Q (F0 m (pc + 3) ls rest)) : W p l e R s m args below meth c H locs cells slots Q (F0 m pc ls st) := by
  obtain ⟨h2, h4, h5, hy⟩ := hB
  have hF := va_free hW.2 hS C.2.2.2.2.2 isC hC
  subst hst
  refine va_callv (va_runS (rest := rest) C.1 (hM.2 H.size) (va_cwS n C.1.2.2.2.2 (good_S h1 h2 h4 h5) rfl hR.1.1 hR.1.2 hy hR.2) ⟨Pt0.blind, fun U hU hWm => pt_of C hW hS isC hnd hC As hU hWm⟩ rfl hn hsz rfl (lv_room hroom) hdg hcs) hS (fun q _ h => hF q h) hF (fun u t H1 locs1 ht hvm hw hB hz hk hS1 => ?_)
  rw [ht] at hB
  exact kk u H1 locs1 hw (wo_mix hW isC hC hk (hM.1 u) hB) hS1
/-- a method that answers one of its cells -/
def CR (l : Launch) (G : Gt) (y : MethodName) (ws : List Cond) (rm : Room) (As : List Value) (w : va_W) (post : Nat → Prop) : Prop :=
  ∀ sz : Nat, Met l y ws rm (Pt0 G As w sz) (va_Qr (S := Unit) (fun _ => True) (fun _ a t => post a ∧ va_P G.1 GB_cl w t.heap) (va_A w sz)) 0 0 (va_A w sz)
theorem q_callNr (C : Cx p s m args meth c own cc nL c0 G A rt) {post : Nat → Prop} {ty : FieldType} {host : String} (hM : CR l G y (Cond.code y by1 nA (some ty) :: wsG) rm (.ref a :: As) wc post)
    (h1 : Cond.methodLinkNest own index y host ∈ nsL) (hB : KB y by1 nA (some ty) n) (hn : As.length = n) (hR : (rm.cells = 0 ∧ rm.slots = 0) ∧ rm.frames + 1 ≤ R.frames ∧ 8 + (nA + 11) + rm.locals ≤ R.locals)
    (hW : wo G A ws H) (hS : va_S A s.heap H locs) (isC : List Nat) (hnd : va_nd isC = true) (hC : isC.map (fun i => ws[i]?) = wc.map some) {ci N q0 : Nat} {T : u_T} {tyf : Nat → FieldType} (hc : KC ci y.cls T N tyf) {fs : List Value} (he : ws[q0]? = some (a, .inr (ci, fs)))
    (hsz : ls.size = nL) {st : List Value} (hst : st = As.reverse ++ .ref a :: rest) (hroom : (rest.map fun v => v.category).sum ≤ 8) (hdg : decode cc pc = .ok (.invokevirtual index, 3)) (hcs : cells ≤ R.cells ∧ slots ≤ R.slots)
    (kk : ∀ (ra : Nat) (H1 : Heap) (locs1 : List Loc), post ra → wo G A (mix ws isC wc) H1 → va_S A s.heap H1 locs1 → W p l e R s m args below meth c H1 locs1 cells slots Q (F0 m (pc + 3) ls (.ref ra :: rest))) : W p l e R s m args below meth c H locs cells slots Q (F0 m pc ls st) := by
  obtain ⟨h2, h3, h4, h5, hy⟩ := hB
  have hF := va_free hW.2 hS C.2.2.2.2.2 isC hC
  subst hst
  refine va_callr (va_runVN (rest := rest) C.1 (hM H.size) ⟨va_cnB n C.1.2.2.2.2 (good_N h5) rfl hR.1.1 hR.1.2 (C.2.2.1.1 _ h1) (C.hts h4) hy hR.2, C.hts h2, C.hts h3⟩ ⟨Pt0.blind, recv_C C hW hc he, fun U hU hWm => pt_of C hW hS isC hnd hC (.ref a :: As) hU hWm⟩ rfl hn hsz rfl (lv_room hroom) hdg hcs) hS (fun q _ h => hF q h) hF (fun u ra t H1 locs1 ht hvm hw hB hz hk hS1 => ?_)
  obtain ⟨hB1, hB2⟩ := hB
  rw [ht] at hB2
  exact kk ra H1 locs1 hB1 (wo_mix hW isC hC hk rfl hB2) hS1
end CALLS
end Q1
/-- the start of a contract's walk -/
theorem ci_intro {l : Launch} {G : Gt} {y : MethodName} {cc : ByteArray} {nL : Nat} {ty : FieldType} {rm : Room} {As : List Value} {w : va_W} {S : Type} {w' : S → va_W} {post : Int32 → S → Prop} {own : String} (hy : plainName y.cls = true) (ho : y.cls = own) (hf : ∀ u, (w' u).map Prod.fst = w.map Prod.fst) (hlen : (lg_sl As).length ≤ nL)
    (body : ∀ (p : Program) (e : Env) (s : State) (m : MethodId) (args : Array Value) (below : List Frame) (meth : Method) (c : Code) (A : Nat → Prop) (H : Heap) (ls : Array Slot) (Q : State → Prop), Cx p s m args meth c own cc nL (Cond.code y cc nL (some ty)) G A (some ty) → wo G A w H → va_S A s.heap H [] → lv_has ls nL (lv_args 0 As) →
      (∀ (u : S) (v : Int32) (H1 : Heap) (locs1 : List Loc) (ls1 : Array Slot) (pc1 : Nat), narrow ty (.int v) = .int v → wo G A (w' u) H1 → va_S A s.heap H1 locs1 → post v u → decode cc pc1 = .ok (.ireturn, 1) → W p l e rm s m args below meth c H1 locs1 0 0 Q (F0 m pc1 ls1 [.int v])) →
      W p l e rm s m args below meth c H [] 0 0 Q (F0 m 0 ls [])) : CI l G y (Cond.code y cc nL (some ty) :: wsG) rm As w w' post := by
  refine ⟨hf, fun sz => Met.ofW (cc := cc) (maxL := nL) (ret := some ty) hy rfl ?_⟩
  intro p e s m args below meth c s₁ B hml hv
  obtain ⟨rfl, hsz, hX, hP, hK, hD0⟩ := hv
  subst hsz
  subst ho
  rw [lg_entry_eq]
  have C : Cx p s m As.toArray meth c y.cls cc nL (Cond.code y cc nL (some ty)) G (va_A w s.heap.size) (some ty) := ⟨⟨B.exec, B.bytes, hml, findClass_of_methodNamed B.named, atoms_spec (ws := Cond.code y cc nL (some ty) :: wsG) B.pre⟩, hK, hX, B.returns, B.notSynchronized, fun q h => Or.inr h⟩
  exact body p e s m As.toArray below meth c (va_A w s.heap.size) s.heap _ _ C ⟨hP, hD0.self⟩ va_S.rf (lv_entry As hlen) (fun u v H1 locs1 ls1 pc1 hn hW hS hv hd => q_iret C u hn hW hS hv hd)
theorem cr_intro {l : Launch} {G : Gt} {y : MethodName} {cc : ByteArray} {nL : Nat} {ty : FieldType} {rm : Room} {As : List Value} {w : va_W} {post : Nat → Prop} {own : String} {cls : String} (hy : plainName y.cls = true) (ho : y.cls = own) (hty : ty = .object cls) (hlen : (lg_sl As).length ≤ nL)
    (body : ∀ (p : Program) (e : Env) (s : State) (m : MethodId) (args : Array Value) (below : List Frame) (meth : Method) (c : Code) (A : Nat → Prop) (H : Heap) (ls : Array Slot) (Q : State → Prop), Cx p s m args meth c own cc nL (Cond.code y cc nL (some ty)) G A (some ty) → wo G A w H → va_S A s.heap H [] → lv_has ls nL (lv_args 0 As) →
      (∀ (ra : Nat) (H1 : Heap) (locs1 : List Loc) (ls1 : Array Slot) (pc1 : Nat), wo G A w H1 → va_S A s.heap H1 locs1 → post ra → decode cc pc1 = .ok (.areturn, 1) → W p l e rm s m args below meth c H1 locs1 0 0 Q (F0 m pc1 ls1 [.ref ra])) →
      W p l e rm s m args below meth c H [] 0 0 Q (F0 m 0 ls [])) : CR l G y (Cond.code y cc nL (some ty) :: wsG) rm As w post := by
  refine fun sz => Met.ofW (cc := cc) (maxL := nL) (ret := some ty) hy rfl ?_
  intro p e s m args below meth c s₁ B hml hv
  obtain ⟨rfl, hsz, hX, hP, hK, hD0⟩ := hv
  subst hsz
  subst ho
  rw [lg_entry_eq]
  have C : Cx p s m As.toArray meth c y.cls cc nL (Cond.code y cc nL (some ty)) G (va_A w s.heap.size) (some ty) := ⟨⟨B.exec, B.bytes, hml, findClass_of_methodNamed B.named, atoms_spec (ws := Cond.code y cc nL (some ty) :: wsG) B.pre⟩, hK, hX, B.returns, B.notSynchronized, fun q h => Or.inr h⟩
  refine body p e s m As.toArray below meth c (va_A w s.heap.size) s.heap _ _ C ⟨hP, hD0.self⟩ va_S.rf (lv_entry As hlen) (fun ra H1 locs1 ls1 pc1 hW hS hv hd => ?_)
  exact W.aret (rt := ty) C.1.1 C.1.2.1 C.2.2.2.1 (Or.inl ⟨cls, hty⟩) (Or.inr ⟨ra, rfl⟩) (fun t ht _ => ⟨⟨(), ra, rfl, trivial, hv, by rw [ht]; exact hW.1⟩, hS.F ht⟩) hS.2.2 hd C.2.2.2.2.1
theorem cv_intro {l : Launch} {G : Gt} {y : MethodName} {cc : ByteArray} {nL : Nat} {rm : Room} {As : List Value} {w : va_W} {S : Type} {w' : S → va_W} {post : S → Prop} {own : String} (hy : plainName y.cls = true) (ho : y.cls = own) (hf : ∀ u, (w' u).map Prod.fst = w.map Prod.fst) (hlen : (lg_sl As).length ≤ nL)
    (body : ∀ (p : Program) (e : Env) (s : State) (m : MethodId) (args : Array Value) (below : List Frame) (meth : Method) (c : Code) (A : Nat → Prop) (H : Heap) (ls : Array Slot) (Q : State → Prop), Cx p s m args meth c own cc nL (Cond.code y cc nL none) G A none → wo G A w H → va_S A s.heap H [] → lv_has ls nL (lv_args 0 As) →
      (∀ (u : S) (H1 : Heap) (locs1 : List Loc) (ls1 : Array Slot) (pc1 : Nat), wo G A (w' u) H1 → va_S A s.heap H1 locs1 → post u → decode cc pc1 = .ok (.return_, 1) → W p l e rm s m args below meth c H1 locs1 0 0 Q (F0 m pc1 ls1 [])) →
      W p l e rm s m args below meth c H [] 0 0 Q (F0 m 0 ls [])) : CV l G y (Cond.code y cc nL none :: wsG) rm As w w' post := by
  refine ⟨hf, fun sz => Met.ofW (cc := cc) (maxL := nL) (ret := none) hy rfl ?_⟩
  intro p e s m args below meth c s₁ B hml hv
  obtain ⟨rfl, hsz, hX, hP, hK, hD0⟩ := hv
  subst hsz
  subst ho
  rw [lg_entry_eq]
  have C : Cx p s m As.toArray meth c y.cls cc nL (Cond.code y cc nL none) G (va_A w s.heap.size) none := ⟨⟨B.exec, B.bytes, hml, findClass_of_methodNamed B.named, atoms_spec (ws := Cond.code y cc nL none :: wsG) B.pre⟩, hK, hX, B.returns, B.notSynchronized, fun q h => Or.inr h⟩
  exact body p e s m As.toArray below meth c (va_A w s.heap.size) s.heap _ _ C ⟨hP, hD0.self⟩ va_S.rf (lv_entry As hlen) (fun u H1 locs1 ls1 pc1 hW hS hv hd => q_vret C u hW hS hv hd)
end
section
theorem nf_X6_88 : (Cond.fieldLinkNest "GoingAbout" 88 "GoingAbout$Standing" "near" "[I" "GoingAbout") ∈ nsL := List.mem_of_getElem? (i := 0) rfl
theorem nf_X4_79 : (Cond.fieldLinkNest "GoingAbout$Suburb" 79 "GoingAbout$Standing" "near" "[I" "GoingAbout") ∈ nsL := List.mem_of_getElem? (i := 1) rfl
theorem nf_X6_91 : (Cond.fieldLinkNest "GoingAbout" 91 "GoingAbout$Standing" "shows" "[I" "GoingAbout") ∈ nsL := List.mem_of_getElem? (i := 2) rfl
theorem nf_X4_82 : (Cond.fieldLinkNest "GoingAbout$Suburb" 82 "GoingAbout$Standing" "shows" "[I" "GoingAbout") ∈ nsL := List.mem_of_getElem? (i := 3) rfl
theorem nf_X6_104 : (Cond.fieldLinkNest "GoingAbout" 104 "GoingAbout$Standing" "day" "I" "GoingAbout") ∈ nsL := List.mem_of_getElem? (i := 4) rfl
theorem nf_X4_107 : (Cond.fieldLinkNest "GoingAbout$Suburb" 107 "GoingAbout$Standing" "day" "I" "GoingAbout") ∈ nsL := List.mem_of_getElem? (i := 5) rfl
theorem nf_X4_64 : (Cond.fieldLinkNest "GoingAbout$Suburb" 64 "GoingAbout$Law" "steps" "[I" "GoingAbout") ∈ nsL := List.mem_of_getElem? (i := 6) rfl
theorem nf_X4_67 : (Cond.fieldLinkNest "GoingAbout$Suburb" 67 "GoingAbout$Law" "size" "I" "GoingAbout") ∈ nsL := List.mem_of_getElem? (i := 7) rfl
theorem nf_X6_137 : (Cond.fieldLinkNest "GoingAbout" 137 "GoingAbout$Law" "size" "I" "GoingAbout") ∈ nsL := List.mem_of_getElem? (i := 8) rfl
theorem nf_X6_68 : (Cond.fieldLinkNest "GoingAbout" 68 "GoingAbout$Suburb" "people" "I" "GoingAbout") ∈ nsL := List.mem_of_getElem? (i := 9) rfl
theorem nf_X6_79 : (Cond.fieldLinkNest "GoingAbout" 79 "GoingAbout$Suburb" "kind" "[I" "GoingAbout") ∈ nsL := List.mem_of_getElem? (i := 10) rfl
theorem nf_X6_82 : (Cond.fieldLinkNest "GoingAbout" 82 "GoingAbout$Suburb" "m" "[I" "GoingAbout") ∈ nsL := List.mem_of_getElem? (i := 11) rfl
theorem nf_X6_94 : (Cond.fieldLinkNest "GoingAbout" 94 "GoingAbout$Suburb" "called" "[I" "GoingAbout") ∈ nsL := List.mem_of_getElem? (i := 12) rfl
theorem nf_X6_85 : (Cond.fieldLinkNest "GoingAbout" 85 "GoingAbout$Suburb" "standing" "LGoingAbout$Standing;" "GoingAbout") ∈ nsL := List.mem_of_getElem? (i := 13) rfl
theorem nf_X6_125 : (Cond.fieldLinkNest "GoingAbout" 125 "GoingAbout$Suburb" "tape" "[B" "GoingAbout") ∈ nsL := List.mem_of_getElem? (i := 14) rfl
theorem nf_X6_115 : (Cond.fieldLinkNest "GoingAbout" 115 "GoingAbout$Suburb" "taped" "I" "GoingAbout") ∈ nsL := List.mem_of_getElem? (i := 15) rfl
theorem nf_X6_253 : (Cond.fieldLinkNest "GoingAbout" 253 "GoingAbout$Suburb" "waits" "[I" "GoingAbout") ∈ nsL := List.mem_of_getElem? (i := 16) rfl
theorem nf_X6_250 : (Cond.fieldLinkNest "GoingAbout" 250 "GoingAbout$Suburb" "waiting" "I" "GoingAbout") ∈ nsL := List.mem_of_getElem? (i := 17) rfl
theorem nf_X6_156 : (Cond.fieldLinkNest "GoingAbout" 156 "GoingAbout$Suburb" "z" "I" "GoingAbout") ∈ nsL := List.mem_of_getElem? (i := 18) rfl
theorem nf_X6_214 : (Cond.fieldLinkNest "GoingAbout" 214 "GoingAbout$Voices" "trace" "[I" "GoingAbout") ∈ nsL := List.mem_of_getElem? (i := 19) rfl
theorem nf_X6_211 : (Cond.fieldLinkNest "GoingAbout" 211 "GoingAbout$Voices" "traced" "I" "GoingAbout") ∈ nsL := List.mem_of_getElem? (i := 20) rfl
theorem nf_X6_207 : (Cond.fieldLinkNest "GoingAbout" 207 "GoingAbout$Voices" "parted" "Z" "GoingAbout") ∈ nsL := List.mem_of_getElem? (i := 21) rfl
theorem nf_X6_224 : (Cond.fieldLinkNest "GoingAbout" 224 "GoingAbout$Sheet" "bits" "I" "GoingAbout") ∈ nsL := List.mem_of_getElem? (i := 22) rfl
theorem nf_X6_220 : (Cond.fieldLinkNest "GoingAbout" 220 "GoingAbout$Sheet" "size" "I" "GoingAbout") ∈ nsL := List.mem_of_getElem? (i := 23) rfl
theorem nf_X6_230 : (Cond.fieldLinkNest "GoingAbout" 230 "GoingAbout$Sheet" "numbers" "[I" "GoingAbout") ∈ nsL := List.mem_of_getElem? (i := 24) rfl
theorem nf_X5_43 : (Cond.fieldLinkNest "GoingAbout$Voices" 43 "GoingAbout" "ABOVE" "[I" "GoingAbout") ∈ nsL := List.mem_of_getElem? (i := 25) rfl
theorem nm_X4_30 : (Cond.methodLinkNest "GoingAbout$Suburb" 30 ⟨"GoingAbout$Law", "<init>", "(I)V"⟩ "GoingAbout") ∈ nsL := List.mem_of_getElem? (i := 26) rfl
theorem nm_X6_72 : (Cond.methodLinkNest "GoingAbout" 72 ⟨"GoingAbout$Suburb", "join", "(III)I"⟩ "GoingAbout") ∈ nsL := List.mem_of_getElem? (i := 27) rfl
theorem nm_X6_76 : (Cond.methodLinkNest "GoingAbout" 76 ⟨"GoingAbout$Suburb", "has", "(I)Z"⟩ "GoingAbout") ∈ nsL := List.mem_of_getElem? (i := 28) rfl
theorem nm_X6_107 : (Cond.methodLinkNest "GoingAbout" 107 ⟨"GoingAbout$Suburb", "takenBy", "(IIII)I"⟩ "GoingAbout") ∈ nsL := List.mem_of_getElem? (i := 29) rfl
theorem nm_X4_103 : (Cond.methodLinkNest "GoingAbout$Suburb" 103 ⟨"GoingAbout$Law", "gives", "(III)I"⟩ "GoingAbout") ∈ nsL := List.mem_of_getElem? (i := 30) rfl
theorem nm_X6_111 : (Cond.methodLinkNest "GoingAbout" 111 ⟨"GoingAbout$Suburb", "meet", "(II)I"⟩ "GoingAbout") ∈ nsL := List.mem_of_getElem? (i := 31) rfl
theorem nm_X6_118 : (Cond.methodLinkNest "GoingAbout" 118 ⟨"GoingAbout$Suburb", "record", "(JI)I"⟩ "GoingAbout") ∈ nsL := List.mem_of_getElem? (i := 32) rfl
theorem nm_X6_129 : (Cond.methodLinkNest "GoingAbout" 129 ⟨"GoingAbout$Suburb", "lawOf", "(I)LGoingAbout$Law;"⟩ "GoingAbout") ∈ nsL := List.mem_of_getElem? (i := 33) rfl
theorem nm_X6_133 : (Cond.methodLinkNest "GoingAbout" 133 ⟨"GoingAbout$Reading", "read", "([BIILGoingAbout$Law;)I"⟩ "GoingAbout") ∈ nsL := List.mem_of_getElem? (i := 34) rfl
theorem nm_X1_56 : (Cond.methodLinkNest "GoingAbout$Reading" 56 ⟨"GoingAbout$Law", "copy", "([II)V"⟩ "GoingAbout") ∈ nsL := List.mem_of_getElem? (i := 35) rfl
theorem nm_X6_142 : (Cond.methodLinkNest "GoingAbout" 142 ⟨"GoingAbout$Law", "gives", "(III)I"⟩ "GoingAbout") ∈ nsL := List.mem_of_getElem? (i := 36) rfl
theorem nm_X6_145 : (Cond.methodLinkNest "GoingAbout" 145 ⟨"GoingAbout$Suburb", "pass", "(LGoingAbout$Standing;)Z"⟩ "GoingAbout") ∈ nsL := List.mem_of_getElem? (i := 37) rfl
theorem nm_X6_149 : (Cond.methodLinkNest "GoingAbout" 149 ⟨"GoingAbout$Suburb", "drawMoves", "()V"⟩ "GoingAbout") ∈ nsL := List.mem_of_getElem? (i := 38) rfl
theorem nm_X6_152 : (Cond.methodLinkNest "GoingAbout" 152 ⟨"GoingAbout$Suburb", "nearestIn", "(LGoingAbout$Standing;)I"⟩ "GoingAbout") ∈ nsL := List.mem_of_getElem? (i := 39) rfl
theorem nm_X6_260 : (Cond.methodLinkNest "GoingAbout" 260 ⟨"GoingAbout$Standing", "copy", "(LGoingAbout$Standing;)V"⟩ "GoingAbout") ∈ nsL := List.mem_of_getElem? (i := 40) rfl
theorem nm_X6_163 : (Cond.methodLinkNest "GoingAbout" 163 ⟨"GoingAbout$Suburb", "countNearer", "(I)I"⟩ "GoingAbout") ∈ nsL := List.mem_of_getElem? (i := 41) rfl
theorem nm_X6_178 : (Cond.methodLinkNest "GoingAbout" 178 ⟨"GoingAbout$Suburb", "comeToFrom", "(I)I"⟩ "GoingAbout") ∈ nsL := List.mem_of_getElem? (i := 42) rfl
theorem nm_X6_181 : (Cond.methodLinkNest "GoingAbout" 181 ⟨"GoingAbout$Suburb", "countTakenNearer", "(I)I"⟩ "GoingAbout") ∈ nsL := List.mem_of_getElem? (i := 43) rfl
theorem nm_X6_190 : (Cond.methodLinkNest "GoingAbout" 190 ⟨"GoingAbout$Sheet", "isMissing", "()Z"⟩ "GoingAbout") ∈ nsL := List.mem_of_getElem? (i := 44) rfl
theorem nm_X6_203 : (Cond.methodLinkNest "GoingAbout" 203 ⟨"GoingAbout$Voices", "hear", "(IIIII)I"⟩ "GoingAbout") ∈ nsL := List.mem_of_getElem? (i := 45) rfl
theorem nm_X5_36 : (Cond.methodLinkNest "GoingAbout$Voices" 36 ⟨"GoingAbout", "isWithin", "(II)Z"⟩ "GoingAbout") ∈ nsL := List.mem_of_getElem? (i := 46) rfl
theorem nm_X6_217 : (Cond.methodLinkNest "GoingAbout" 217 ⟨"GoingAbout$Sheet", "lay", "(II)V"⟩ "GoingAbout") ∈ nsL := List.mem_of_getElem? (i := 47) rfl
theorem nm_X6_221 : (Cond.methodLinkNest "GoingAbout" 221 ⟨"GoingAbout$Sheet", "write", "(II)V"⟩ "GoingAbout") ∈ nsL := List.mem_of_getElem? (i := 48) rfl
theorem nm_X6_227 : (Cond.methodLinkNest "GoingAbout" 227 ⟨"GoingAbout$Sheet", "holds", "(II)Z"⟩ "GoingAbout") ∈ nsL := List.mem_of_getElem? (i := 49) rfl
theorem nm_X6_239 : (Cond.methodLinkNest "GoingAbout" 239 ⟨"GoingAbout$Suburb", "signOf", "(ILGoingAbout$Standing;)I"⟩ "GoingAbout") ∈ nsL := List.mem_of_getElem? (i := 50) rfl
theorem nm_X6_243 : (Cond.methodLinkNest "GoingAbout" 243 ⟨"GoingAbout$Suburb", "copy", "(LGoingAbout$Suburb;)V"⟩ "GoingAbout") ∈ nsL := List.mem_of_getElem? (i := 51) rfl
theorem nm_X4_60 : (Cond.methodLinkNest "GoingAbout$Suburb" 60 ⟨"GoingAbout$Standing", "copy", "(LGoingAbout$Standing;)V"⟩ "GoingAbout") ∈ nsL := List.mem_of_getElem? (i := 52) rfl
theorem nm_X4_70 : (Cond.methodLinkNest "GoingAbout$Suburb" 70 ⟨"GoingAbout$Law", "copy", "([II)V"⟩ "GoingAbout") ∈ nsL := List.mem_of_getElem? (i := 53) rfl
theorem kal_3 : Int32.ofNat 3 = 3 := by decide
theorem kbp_m2 : (Int8.ofInt (-2)).toInt32 = -2 := by decide
theorem kic_0 : Int32.ofInt (0) = 0 := by decide
theorem kic_1 : Int32.ofInt (1) = 1 := by decide
theorem kic_m1 : Int32.ofInt (-1) = -1 := by decide
theorem ksp_255 : (Int16.ofInt (255)).toInt32 = 255 := by decide
theorem kb_J0_coder_7d493 : KB yJ0_coder_7d493 cJ0_coder_7d493 1 (some .byte) 0 := ⟨im_J0_coder_7d493, sel_J0_coder_7d493, ini_J0, cd_J0_coder_7d493, by decide +kernel⟩
theorem kb_J0_indexOf_0f7a4 : KB yJ0_indexOf_0f7a4 cJ0_indexOf_0f7a4 2 (some .int) 1 := ⟨im_J0_indexOf_0f7a4, sel_J0_indexOf_0f7a4, ini_J0, cd_J0_indexOf_0f7a4, by decide +kernel⟩
theorem kb_J0_indexOf_7cf53 : KB yJ0_indexOf_7cf53 cJ0_indexOf_7cf53 3 (some .int) 2 := ⟨im_J0_indexOf_7cf53, sel_J0_indexOf_7cf53, ini_J0, cd_J0_indexOf_7cf53, by decide +kernel⟩
theorem kb_J0_isLatin1_aae02 : KB yJ0_isLatin1_aae02 cJ0_isLatin1_aae02 1 (some .boolean) 0 := ⟨im_J0_isLatin1_aae02, sel_J0_isLatin1_aae02, ini_J0, cd_J0_isLatin1_aae02, by decide +kernel⟩
theorem kb_J0_length_8abf5 : KB yJ0_length_8abf5 cJ0_length_8abf5 1 (some .int) 0 := ⟨im_J0_length_8abf5, sel_J0_length_8abf5, ini_J0, cd_J0_length_8abf5, by decide +kernel⟩
theorem kb_J1_canEncode_9a6ad : KS yJ1_canEncode_9a6ad cJ1_canEncode_9a6ad 1 (some .boolean) 1 := ⟨st_J1_canEncode_9a6ad, ini_J1, cd_J1_canEncode_9a6ad, by decide +kernel⟩
theorem kb_J1_indexOfChar_4cfef : KS yJ1_indexOfChar_4cfef cJ1_indexOfChar_4cfef 6 (some .int) 4 := ⟨st_J1_indexOfChar_4cfef, ini_J1, cd_J1_indexOfChar_4cfef, by decide +kernel⟩
theorem kb_J1_indexOf_4cfef : KS yJ1_indexOf_4cfef cJ1_indexOf_4cfef 4 (some .int) 4 := ⟨st_J1_indexOf_4cfef, ini_J1, cd_J1_indexOf_4cfef, by decide +kernel⟩
theorem kb_J6_bitCount_0f7a4 : KS yJ6_bitCount_0f7a4 cJ6_bitCount_0f7a4 1 (some .int) 1 := ⟨st_J6_bitCount_0f7a4, ini_J6, cd_J6_bitCount_0f7a4, by decide +kernel⟩
theorem kb_X0_copy : KB yX0_copy cX0_copy 3 none 2 := ⟨im_X0_copy, sel_X0_copy, ini_X0, cd_X0_copy, by decide +kernel⟩
theorem kb_X0_gives : KB yX0_gives cX0_gives 7 (some .int) 3 := ⟨im_X0_gives, sel_X0_gives, ini_X0, cd_X0_gives, by decide +kernel⟩
theorem kb_X0_joined : KS yX0_joined cX0_joined 3 (some .int) 3 := ⟨st_X0_joined, ini_X0, cd_X0_joined, by decide +kernel⟩
theorem kb_X0_named : KS yX0_named cX0_named 4 (some .int) 4 := ⟨st_X0_named, ini_X0, cd_X0_named, by decide +kernel⟩
theorem kb_X1_isDigit : KS yX1_isDigit cX1_isDigit 1 (some .boolean) 1 := ⟨st_X1_isDigit, ini_X1, cd_X1_isDigit, by decide +kernel⟩
theorem kb_X1_levelOf : KS yX1_levelOf cX1_levelOf 1 (some .int) 1 := ⟨st_X1_levelOf, ini_X1, cd_X1_levelOf, by decide +kernel⟩
theorem kb_X1_read : KB yX1_read cX1_read 5 (some .int) 4 := ⟨im_X1_read, sel_X1_read, ini_X1, cd_X1_read, by decide +kernel⟩
theorem kb_X1_readClosing : KB yX1_readClosing cX1_readClosing 1 (some .boolean) 0 := ⟨im_X1_readClosing, sel_X1_readClosing, ini_X1, cd_X1_readClosing, by decide +kernel⟩
theorem kb_X1_readInner : KB yX1_readInner cX1_readInner 5 (some .boolean) 1 := ⟨im_X1_readInner, sel_X1_readInner, ini_X1, cd_X1_readInner, by decide +kernel⟩
theorem kb_X1_readLevel : KB yX1_readLevel cX1_readLevel 5 (some .boolean) 2 := ⟨im_X1_readLevel, sel_X1_readLevel, ini_X1, cd_X1_readLevel, by decide +kernel⟩
theorem kb_X1_readNumber : KB yX1_readNumber cX1_readNumber 3 (some .boolean) 0 := ⟨im_X1_readNumber, sel_X1_readNumber, ini_X1, cd_X1_readNumber, by decide +kernel⟩
theorem kb_X1_step : KB yX1_step cX1_step 2 none 1 := ⟨im_X1_step, sel_X1_step, ini_X1, cd_X1_step, by decide +kernel⟩
theorem kb_X2_holds : KB yX2_holds cX2_holds 3 (some .boolean) 2 := ⟨im_X2_holds, sel_X2_holds, ini_X2, cd_X2_holds, by decide +kernel⟩
theorem kb_X2_isMissing : KB yX2_isMissing cX2_isMissing 1 (some .boolean) 0 := ⟨im_X2_isMissing, sel_X2_isMissing, ini_X2, cd_X2_isMissing, by decide +kernel⟩
theorem kb_X2_lay : KB yX2_lay cX2_lay 4 none 2 := ⟨im_X2_lay, sel_X2_lay, ini_X2, cd_X2_lay, by decide +kernel⟩
theorem kb_X2_write : KB yX2_write cX2_write 3 none 2 := ⟨im_X2_write, sel_X2_write, ini_X2, cd_X2_write, by decide +kernel⟩
theorem kb_X3_copy : KB yX3_copy cX3_copy 2 none 1 := ⟨im_X3_copy, sel_X3_copy, ini_X3, cd_X3_copy, by decide +kernel⟩
theorem kb_X4_comeToFrom : KB yX4_comeToFrom cX4_comeToFrom 5 (some .int) 1 := ⟨im_X4_comeToFrom, sel_X4_comeToFrom, ini_X4, cd_X4_comeToFrom, by decide +kernel⟩
theorem kb_X4_copy : KB yX4_copy cX4_copy 2 none 1 := ⟨im_X4_copy, sel_X4_copy, ini_X4, cd_X4_copy, by decide +kernel⟩
theorem kb_X4_countNearer : KB yX4_countNearer cX4_countNearer 4 (some .int) 1 := ⟨im_X4_countNearer, sel_X4_countNearer, ini_X4, cd_X4_countNearer, by decide +kernel⟩
theorem kb_X4_countTakenNearer : KB yX4_countTakenNearer cX4_countTakenNearer 4 (some .int) 1 := ⟨im_X4_countTakenNearer, sel_X4_countTakenNearer, ini_X4, cd_X4_countTakenNearer, by decide +kernel⟩
theorem kb_X4_draw : KB yX4_draw cX4_draw 1 (some .int) 0 := ⟨im_X4_draw, sel_X4_draw, ini_X4, cd_X4_draw, by decide +kernel⟩
theorem kb_X4_drawMoves : KB yX4_drawMoves cX4_drawMoves 4 none 0 := ⟨im_X4_drawMoves, sel_X4_drawMoves, ini_X4, cd_X4_drawMoves, by decide +kernel⟩
theorem kb_X4_has : KB yX4_has cX4_has 2 (some .boolean) 1 := ⟨im_X4_has, sel_X4_has, ini_X4, cd_X4_has, by decide +kernel⟩
theorem kb_X4_join : KB yX4_join cX4_join 5 (some .int) 3 := ⟨im_X4_join, sel_X4_join, ini_X4, cd_X4_join, by decide +kernel⟩
theorem kb_X4_lawOf : KB yX4_lawOf cX4_lawOf 2 (some (.object "GoingAbout$Law")) 1 := ⟨im_X4_lawOf, sel_X4_lawOf, ini_X4, cd_X4_lawOf, by decide +kernel⟩
theorem kb_X4_meet : KB yX4_meet cX4_meet 4 (some .int) 2 := ⟨im_X4_meet, sel_X4_meet, ini_X4, cd_X4_meet, by decide +kernel⟩
theorem kb_X4_nearAfter : KB yX4_nearAfter cX4_nearAfter 5 (some .int) 2 := ⟨im_X4_nearAfter, sel_X4_nearAfter, ini_X4, cd_X4_nearAfter, by decide +kernel⟩
theorem kb_X4_nearestIn : KB yX4_nearestIn cX4_nearestIn 4 (some .int) 1 := ⟨im_X4_nearestIn, sel_X4_nearestIn, ini_X4, cd_X4_nearestIn, by decide +kernel⟩
theorem kb_X4_pass : KB yX4_pass cX4_pass 6 (some .boolean) 1 := ⟨im_X4_pass, sel_X4_pass, ini_X4, cd_X4_pass, by decide +kernel⟩
theorem kb_X4_readsOf : KS yX4_readsOf cX4_readsOf 6 (some .int) 5 := ⟨st_X4_readsOf, ini_X4, cd_X4_readsOf, by decide +kernel⟩
theorem kb_X4_record : KB yX4_record cX4_record 5 (some .int) 2 := ⟨im_X4_record, sel_X4_record, ini_X4, cd_X4_record, by decide +kernel⟩
theorem kb_X4_signOf : KB yX4_signOf cX4_signOf 4 (some .int) 2 := ⟨im_X4_signOf, sel_X4_signOf, ini_X4, cd_X4_signOf, by decide +kernel⟩
theorem kb_X4_takenBy : KB yX4_takenBy cX4_takenBy 5 (some .int) 4 := ⟨im_X4_takenBy, sel_X4_takenBy, ini_X4, cd_X4_takenBy, by decide +kernel⟩
theorem kb_X4_tellsOf : KS yX4_tellsOf cX4_tellsOf 5 (some .int) 4 := ⟨st_X4_tellsOf, ini_X4, cd_X4_tellsOf, by decide +kernel⟩
theorem kb_X5_hear : KB yX5_hear cX5_hear 6 (some .int) 5 := ⟨im_X5_hear, sel_X5_hear, ini_X5, cd_X5_hear, by decide +kernel⟩
theorem kb_X5_part : KB yX5_part cX5_part 3 (some .int) 1 := ⟨im_X5_part, sel_X5_part, ini_X5, cd_X5_part, by decide +kernel⟩
theorem kb_X5_partAndStir : KB yX5_partAndStir cX5_partAndStir 5 (some .int) 3 := ⟨im_X5_partAndStir, sel_X5_partAndStir, ini_X5, cd_X5_partAndStir, by decide +kernel⟩
theorem kb_X5_speak : KB yX5_speak cX5_speak 7 (some .int) 4 := ⟨im_X5_speak, sel_X5_speak, ini_X5, cd_X5_speak, by decide +kernel⟩
theorem kb_X5_workOut : KB yX5_workOut cX5_workOut 5 (some .int) 4 := ⟨im_X5_workOut, sel_X5_workOut, ini_X5, cd_X5_workOut, by decide +kernel⟩
theorem kb_X6_as : KB yX6_as cX6_as 3 (some .int) 2 := ⟨im_X6_as, sel_X6_as, ini_X6, cd_X6_as, by decide +kernel⟩
theorem kb_X6_become : KB yX6_become cX6_become 4 (some .int) 2 := ⟨im_X6_become, sel_X6_become, ini_X6, cd_X6_become, by decide +kernel⟩
theorem kb_X6_began : KB yX6_began cX6_began 9 (some .int) 3 := ⟨im_X6_began, sel_X6_began, ini_X6, cd_X6_began, by decide +kernel⟩
theorem kb_X6_body : KB yX6_body cX6_body 2 (some .int) 1 := ⟨im_X6_body, sel_X6_body, ini_X6, cd_X6_body, by decide +kernel⟩
theorem kb_X6_call : KB yX6_call cX6_call 3 (some .int) 2 := ⟨im_X6_call, sel_X6_call, ini_X6, cd_X6_call, by decide +kernel⟩
theorem kb_X6_check : KB yX6_check cX6_check 3 (some .int) 0 := ⟨im_X6_check, sel_X6_check, ini_X6, cd_X6_check, by decide +kernel⟩
theorem kb_X6_commonDivisor : KS yX6_commonDivisor cX6_commonDivisor 6 (some .int) 2 := ⟨st_X6_commonDivisor, ini_X6, cd_X6_commonDivisor, by decide +kernel⟩
theorem kb_X6_count : KB yX6_count cX6_count 2 (some .int) 1 := ⟨im_X6_count, sel_X6_count, ini_X6, cd_X6_count, by decide +kernel⟩
theorem kb_X6_days : KB yX6_days cX6_days 3 (some .int) 1 := ⟨im_X6_days, sel_X6_days, ini_X6, cd_X6_days, by decide +kernel⟩
theorem kb_X6_error : KB yX6_error cX6_error 2 (some .int) 1 := ⟨im_X6_error, sel_X6_error, ini_X6, cd_X6_error, by decide +kernel⟩
theorem kb_X6_feed : KB yX6_feed cX6_feed 4 (some .int) 2 := ⟨im_X6_feed, sel_X6_feed, ini_X6, cd_X6_feed, by decide +kernel⟩
theorem kb_X6_fewestFor : KB yX6_fewestFor cX6_fewestFor 5 (some .int) 1 := ⟨im_X6_fewestFor, sel_X6_fewestFor, ini_X6, cd_X6_fewestFor, by decide +kernel⟩
theorem kb_X6_fits : KB yX6_fits cX6_fits 3 (some .int) 1 := ⟨im_X6_fits, sel_X6_fits, ini_X6, cd_X6_fits, by decide +kernel⟩
theorem kb_X6_heard : KB yX6_heard cX6_heard 2 (some .int) 1 := ⟨im_X6_heard, sel_X6_heard, ini_X6, cd_X6_heard, by decide +kernel⟩
theorem kb_X6_image : KB yX6_image cX6_image 1 (some .int) 0 := ⟨im_X6_image, sel_X6_image, ini_X6, cd_X6_image, by decide +kernel⟩
theorem kb_X6_isKind : KS yX6_isKind cX6_isKind 1 (some .boolean) 1 := ⟨st_X6_isKind, ini_X6, cd_X6_isKind, by decide +kernel⟩
theorem kb_X6_isNear : KS yX6_isNear cX6_isNear 1 (some .boolean) 1 := ⟨st_X6_isNear, ini_X6, cd_X6_isNear, by decide +kernel⟩
theorem kb_X6_isSheet : KS yX6_isSheet cX6_isSheet 1 (some .boolean) 1 := ⟨st_X6_isSheet, ini_X6, cd_X6_isSheet, by decide +kernel⟩
theorem kb_X6_isSign : KS yX6_isSign cX6_isSign 1 (some .boolean) 1 := ⟨st_X6_isSign, ini_X6, cd_X6_isSign, by decide +kernel⟩
theorem kb_X6_isUnder : KS yX6_isUnder cX6_isUnder 4 (some .boolean) 2 := ⟨st_X6_isUnder, ini_X6, cd_X6_isUnder, by decide +kernel⟩
theorem kb_X6_isUse : KS yX6_isUse cX6_isUse 1 (some .boolean) 1 := ⟨st_X6_isUse, ini_X6, cd_X6_isUse, by decide +kernel⟩
theorem kb_X6_isWithin : KS yX6_isWithin cX6_isWithin 2 (some .boolean) 2 := ⟨st_X6_isWithin, ini_X6, cd_X6_isWithin, by decide +kernel⟩
theorem kb_X6_judge : KB yX6_judge cX6_judge 4 (some .int) 1 := ⟨im_X6_judge, sel_X6_judge, ini_X6, cd_X6_judge, by decide +kernel⟩
theorem kb_X6_law : KB yX6_law cX6_law 5 (some .int) 4 := ⟨im_X6_law, sel_X6_law, ini_X6, cd_X6_law, by decide +kernel⟩
theorem kb_X6_loose : KB yX6_loose cX6_loose 3 (some .int) 1 := ⟨im_X6_loose, sel_X6_loose, ini_X6, cd_X6_loose, by decide +kernel⟩
theorem kb_X6_move : KB yX6_move cX6_move 8 (some .int) 5 := ⟨im_X6_move, sel_X6_move, ini_X6, cd_X6_move, by decide +kernel⟩
theorem kb_X6_nearIfSigned : KB yX6_nearIfSigned cX6_nearIfSigned 3 (some .int) 2 := ⟨im_X6_nearIfSigned, sel_X6_nearIfSigned, ini_X6, cd_X6_nearIfSigned, by decide +kernel⟩
theorem kb_X6_nearest : KB yX6_nearest cX6_nearest 2 (some .int) 1 := ⟨im_X6_nearest, sel_X6_nearest, ini_X6, cd_X6_nearest, by decide +kernel⟩
theorem kb_X6_nearestIfSigned : KB yX6_nearestIfSigned cX6_nearestIfSigned 4 (some .int) 1 := ⟨im_X6_nearestIfSigned, sel_X6_nearestIfSigned, ini_X6, cd_X6_nearestIfSigned, by decide +kernel⟩
theorem kb_X6_nears : KB yX6_nears cX6_nears 4 (some .int) 1 := ⟨im_X6_nears, sel_X6_nears, ini_X6, cd_X6_nears, by decide +kernel⟩
theorem kb_X6_odds : KB yX6_odds cX6_odds 6 (some .int) 2 := ⟨im_X6_odds, sel_X6_odds, ini_X6, cd_X6_odds, by decide +kernel⟩
theorem kb_X6_person : KB yX6_person cX6_person 4 (some .int) 3 := ⟨im_X6_person, sel_X6_person, ini_X6, cd_X6_person, by decide +kernel⟩
theorem kb_X6_personIs : KB yX6_personIs cX6_personIs 3 (some .int) 2 := ⟨im_X6_personIs, sel_X6_personIs, ini_X6, cd_X6_personIs, by decide +kernel⟩
theorem kb_X6_put : KB yX6_put cX6_put 4 (some .int) 3 := ⟨im_X6_put, sel_X6_put, ini_X6, cd_X6_put, by decide +kernel⟩
theorem kb_X6_rank : KB yX6_rank cX6_rank 2 (some .int) 1 := ⟨im_X6_rank, sel_X6_rank, ini_X6, cd_X6_rank, by decide +kernel⟩
theorem kb_X6_restore : KB yX6_restore cX6_restore 1 (some .int) 0 := ⟨im_X6_restore, sel_X6_restore, ini_X6, cd_X6_restore, by decide +kernel⟩
theorem kb_X6_seed : KB yX6_seed cX6_seed 3 (some .int) 1 := ⟨im_X6_seed, sel_X6_seed, ini_X6, cd_X6_seed, by decide +kernel⟩
theorem kb_X6_seems : KB yX6_seems cX6_seems 4 (some .int) 2 := ⟨im_X6_seems, sel_X6_seems, ini_X6, cd_X6_seems, by decide +kernel⟩
theorem kb_X6_settles : KB yX6_settles cX6_settles 2 (some .int) 0 := ⟨im_X6_settles, sel_X6_settles, ini_X6, cd_X6_settles, by decide +kernel⟩
theorem kb_X6_sheet : KB yX6_sheet cX6_sheet 4 (some .int) 3 := ⟨im_X6_sheet, sel_X6_sheet, ini_X6, cd_X6_sheet, by decide +kernel⟩
theorem kb_X6_shows : KB yX6_shows cX6_shows 4 (some .int) 2 := ⟨im_X6_shows, sel_X6_shows, ini_X6, cd_X6_shows, by decide +kernel⟩
theorem kb_X6_signs : KB yX6_signs cX6_signs 6 (some .int) 4 := ⟨im_X6_signs, sel_X6_signs, ini_X6, cd_X6_signs, by decide +kernel⟩
theorem kb_X6_taken : KB yX6_taken cX6_taken 4 (some .int) 2 := ⟨im_X6_taken, sel_X6_taken, ini_X6, cd_X6_taken, by decide +kernel⟩
theorem kb_X6_tell : KB yX6_tell cX6_tell 2 (some .int) 1 := ⟨im_X6_tell, sel_X6_tell, ini_X6, cd_X6_tell, by decide +kernel⟩
theorem kb_X6_tellsMixed : KB yX6_tellsMixed cX6_tellsMixed 4 (some .boolean) 2 := ⟨im_X6_tellsMixed, sel_X6_tellsMixed, ini_X6, cd_X6_tellsMixed, by decide +kernel⟩
theorem kb_X6_text : KB yX6_text cX6_text 3 (some .int) 1 := ⟨im_X6_text, sel_X6_text, ini_X6, cd_X6_text, by decide +kernel⟩
theorem kb_X6_then : KB yX6_then cX6_then 4 (some .int) 3 := ⟨im_X6_then, sel_X6_then, ini_X6, cd_X6_then, by decide +kernel⟩
theorem kb_X6_think : KB yX6_think cX6_think 3 none 1 := ⟨im_X6_think, sel_X6_think, ini_X6, cd_X6_think, by decide +kernel⟩
theorem kb_X6_thinkSigned : KB yX6_thinkSigned cX6_thinkSigned 4 none 2 := ⟨im_X6_thinkSigned, sel_X6_thinkSigned, ini_X6, cd_X6_thinkSigned, by decide +kernel⟩
theorem kb_X6_told : KB yX6_told cX6_told 2 (some .int) 1 := ⟨im_X6_told, sel_X6_told, ini_X6, cd_X6_told, by decide +kernel⟩
theorem kb_X6_untell : KB yX6_untell cX6_untell 4 (some .int) 1 := ⟨im_X6_untell, sel_X6_untell, ini_X6, cd_X6_untell, by decide +kernel⟩
theorem kb_X6_voice : KB yX6_voice cX6_voice 5 (some .int) 3 := ⟨im_X6_voice, sel_X6_voice, ini_X6, cd_X6_voice, by decide +kernel⟩
theorem kb_X7_aDay : KB yX7_aDay cX7_aDay 2 none 0 := ⟨im_X7_aDay, sel_X7_aDay, ini_X7, cd_X7_aDay, by decide +kernel⟩
theorem kb_X7_above : KS yX7_above cX7_above 1 (some .int) 1 := ⟨st_X7_above, ini_X7, cd_X7_above, by decide +kernel⟩
theorem kb_X7_areNearSo : KB yX7_areNearSo cX7_areNearSo 4 (some .boolean) 1 := ⟨im_X7_areNearSo, sel_X7_areNearSo, ini_X7, cd_X7_areNearSo, by decide +kernel⟩
theorem kb_X7_areTwo : KB yX7_areTwo cX7_areTwo 3 (some .boolean) 2 := ⟨im_X7_areTwo, sel_X7_areTwo, ini_X7, cd_X7_areTwo, by decide +kernel⟩
theorem kb_X7_as : KB yX7_as cX7_as 4 (some .int) 2 := ⟨im_X7_as, sel_X7_as, ini_X7, cd_X7_as, by decide +kernel⟩
theorem kb_X7_become : KB yX7_become cX7_become 3 (some .int) 2 := ⟨im_X7_become, sel_X7_become, ini_X7, cd_X7_become, by decide +kernel⟩
theorem kb_X7_began : KB yX7_began cX7_began 9 (some .int) 3 := ⟨im_X7_began, sel_X7_began, ini_X7, cd_X7_began, by decide +kernel⟩
theorem kb_X7_body : KB yX7_body cX7_body 2 (some .int) 1 := ⟨im_X7_body, sel_X7_body, ini_X7, cd_X7_body, by decide +kernel⟩
theorem kb_X7_both : KB yX7_both cX7_both 1 (some .boolean) 0 := ⟨im_X7_both, sel_X7_both, ini_X7, cd_X7_both, by decide +kernel⟩
theorem kb_X7_call : KB yX7_call cX7_call 3 (some .int) 2 := ⟨im_X7_call, sel_X7_call, ini_X7, cd_X7_call, by decide +kernel⟩
theorem kb_X7_calls : KB yX7_calls cX7_calls 4 (some .int) 2 := ⟨im_X7_calls, sel_X7_calls, ini_X7, cd_X7_calls, by decide +kernel⟩
theorem kb_X7_callsAs : KB yX7_callsAs cX7_callsAs 3 (some .int) 2 := ⟨im_X7_callsAs, sel_X7_callsAs, ini_X7, cd_X7_callsAs, by decide +kernel⟩
theorem kb_X7_change1 : KB yX7_change1 cX7_change1 4 (some .int) 2 := ⟨im_X7_change1, sel_X7_change1, ini_X7, cd_X7_change1, by decide +kernel⟩
theorem kb_X7_check : KB yX7_check cX7_check 3 (some .int) 0 := ⟨im_X7_check, sel_X7_check, ini_X7, cd_X7_check, by decide +kernel⟩
theorem kb_X7_compared : KB yX7_compared cX7_compared 2 (some .boolean) 0 := ⟨im_X7_compared, sel_X7_compared, ini_X7, cd_X7_compared, by decide +kernel⟩
theorem kb_X7_copyAll : KS yX7_copyAll cX7_copyAll 3 none 2 := ⟨st_X7_copyAll, ini_X7, cd_X7_copyAll, by decide +kernel⟩
theorem kb_X7_count : KB yX7_count cX7_count 2 (some .int) 1 := ⟨im_X7_count, sel_X7_count, ini_X7, cd_X7_count, by decide +kernel⟩
theorem kb_X7_days : KB yX7_days cX7_days 3 (some .int) 1 := ⟨im_X7_days, sel_X7_days, ini_X7, cd_X7_days, by decide +kernel⟩
theorem kb_X7_divisor : KS yX7_divisor cX7_divisor 5 (some .int) 2 := ⟨st_X7_divisor, ini_X7, cd_X7_divisor, by decide +kernel⟩
theorem kb_X7_doesLead : KB yX7_doesLead cX7_doesLead 6 (some .boolean) 4 := ⟨im_X7_doesLead, sel_X7_doesLead, ini_X7, cd_X7_doesLead, by decide +kernel⟩
theorem kb_X7_draw : KB yX7_draw cX7_draw 1 (some .int) 0 := ⟨im_X7_draw, sel_X7_draw, ini_X7, cd_X7_draw, by decide +kernel⟩
theorem kb_X7_errands : KB yX7_errands cX7_errands 5 none 0 := ⟨im_X7_errands, sel_X7_errands, ini_X7, cd_X7_errands, by decide +kernel⟩
theorem kb_X7_error : KB yX7_error cX7_error 2 (some .int) 1 := ⟨im_X7_error, sel_X7_error, ini_X7, cd_X7_error, by decide +kernel⟩
theorem kb_X7_feed : KB yX7_feed cX7_feed 5 (some .int) 2 := ⟨im_X7_feed, sel_X7_feed, ini_X7, cd_X7_feed, by decide +kernel⟩
theorem kb_X7_findThen : KB yX7_findThen cX7_findThen 4 none 0 := ⟨im_X7_findThen, sel_X7_findThen, ini_X7, cd_X7_findThen, by decide +kernel⟩
theorem kb_X7_fits : KB yX7_fits cX7_fits 4 (some .int) 1 := ⟨im_X7_fits, sel_X7_fits, ini_X7, cd_X7_fits, by decide +kernel⟩
theorem kb_X7_goes : KB yX7_goes cX7_goes 3 none 1 := ⟨im_X7_goes, sel_X7_goes, ini_X7, cd_X7_goes, by decide +kernel⟩
theorem kb_X7_hasText : KB yX7_hasText cX7_hasText 2 (some .boolean) 1 := ⟨im_X7_hasText, sel_X7_hasText, ini_X7, cd_X7_hasText, by decide +kernel⟩
theorem kb_X7_heard : KB yX7_heard cX7_heard 5 (some .int) 1 := ⟨im_X7_heard, sel_X7_heard, ini_X7, cd_X7_heard, by decide +kernel⟩
theorem kb_X7_held : KS yX7_held cX7_held 3 (some .int) 3 := ⟨st_X7_held, ini_X7, cd_X7_held, by decide +kernel⟩
theorem kb_X7_image : KB yX7_image cX7_image 1 (some .int) 0 := ⟨im_X7_image, sel_X7_image, ini_X7, cd_X7_image, by decide +kernel⟩
theorem kb_X7_in : KS yX7_in cX7_in 3 (some .boolean) 3 := ⟨st_X7_in, ini_X7, cd_X7_in, by decide +kernel⟩
theorem kb_X7_isKind : KS yX7_isKind cX7_isKind 1 (some .boolean) 1 := ⟨st_X7_isKind, ini_X7, cd_X7_isKind, by decide +kernel⟩
theorem kb_X7_isName : KB yX7_isName cX7_isName 2 (some .boolean) 1 := ⟨im_X7_isName, sel_X7_isName, ini_X7, cd_X7_isName, by decide +kernel⟩
theorem kb_X7_isPerson : KB yX7_isPerson cX7_isPerson 2 (some .boolean) 1 := ⟨im_X7_isPerson, sel_X7_isPerson, ini_X7, cd_X7_isPerson, by decide +kernel⟩
theorem kb_X7_isSettled : KB yX7_isSettled cX7_isSettled 3 (some .boolean) 0 := ⟨im_X7_isSettled, sel_X7_isSettled, ini_X7, cd_X7_isSettled, by decide +kernel⟩
theorem kb_X7_isSheet : KS yX7_isSheet cX7_isSheet 1 (some .boolean) 1 := ⟨st_X7_isSheet, ini_X7, cd_X7_isSheet, by decide +kernel⟩
theorem kb_X7_isSoBy : KB yX7_isSoBy cX7_isSoBy 6 (some .boolean) 4 := ⟨im_X7_isSoBy, sel_X7_isSoBy, ini_X7, cd_X7_isSoBy, by decide +kernel⟩
theorem kb_X7_its : KB yX7_its cX7_its 3 (some .int) 2 := ⟨im_X7_its, sel_X7_its, ini_X7, cd_X7_its, by decide +kernel⟩
theorem kb_X7_joined : KS yX7_joined cX7_joined 3 (some .int) 3 := ⟨st_X7_joined, ini_X7, cd_X7_joined, by decide +kernel⟩
theorem kb_X7_judge : KB yX7_judge cX7_judge 4 (some .int) 1 := ⟨im_X7_judge, sel_X7_judge, ini_X7, cd_X7_judge, by decide +kernel⟩
theorem kb_X7_kindNow : KB yX7_kindNow cX7_kindNow 1 (some .int) 0 := ⟨im_X7_kindNow, sel_X7_kindNow, ini_X7, cd_X7_kindNow, by decide +kernel⟩
theorem kb_X7_lacks : KB yX7_lacks cX7_lacks 2 (some .int) 1 := ⟨im_X7_lacks, sel_X7_lacks, ini_X7, cd_X7_lacks, by decide +kernel⟩
theorem kb_X7_law : KB yX7_law cX7_law 5 (some .int) 4 := ⟨im_X7_law, sel_X7_law, ini_X7, cd_X7_law, by decide +kernel⟩
theorem kb_X7_layBack : KB yX7_layBack cX7_layBack 2 none 0 := ⟨im_X7_layBack, sel_X7_layBack, ini_X7, cd_X7_layBack, by decide +kernel⟩
theorem kb_X7_layDown : KB yX7_layDown cX7_layDown 2 none 0 := ⟨im_X7_layDown, sel_X7_layDown, ini_X7, cd_X7_layDown, by decide +kernel⟩
theorem kb_X7_lays1 : KB yX7_lays1 cX7_lays1 4 none 3 := ⟨im_X7_lays1, sel_X7_lays1, ini_X7, cd_X7_lays1, by decide +kernel⟩
theorem kb_X7_look : KB yX7_look cX7_look 1 (some .int) 0 := ⟨im_X7_look, sel_X7_look, ini_X7, cd_X7_look, by decide +kernel⟩
theorem kb_X7_loose : KB yX7_loose cX7_loose 4 (some .int) 1 := ⟨im_X7_loose, sel_X7_loose, ini_X7, cd_X7_loose, by decide +kernel⟩
theorem kb_X7_mNow : KB yX7_mNow cX7_mNow 1 (some .int) 0 := ⟨im_X7_mNow, sel_X7_mNow, ini_X7, cd_X7_mNow, by decide +kernel⟩
theorem kb_X7_manyIn : KS yX7_manyIn cX7_manyIn 3 (some .int) 1 := ⟨st_X7_manyIn, ini_X7, cd_X7_manyIn, by decide +kernel⟩
theorem kb_X7_move : KB yX7_move cX7_move 7 (some .int) 5 := ⟨im_X7_move, sel_X7_move, ini_X7, cd_X7_move, by decide +kernel⟩
theorem kb_X7_nearest : KB yX7_nearest cX7_nearest 3 (some .int) 1 := ⟨im_X7_nearest, sel_X7_nearest, ini_X7, cd_X7_nearest, by decide +kernel⟩
theorem kb_X7_nearestNow : KB yX7_nearestNow cX7_nearestNow 3 (some .int) 0 := ⟨im_X7_nearestNow, sel_X7_nearestNow, ini_X7, cd_X7_nearestNow, by decide +kernel⟩
theorem kb_X7_nears : KB yX7_nears cX7_nears 4 (some .int) 1 := ⟨im_X7_nears, sel_X7_nears, ini_X7, cd_X7_nears, by decide +kernel⟩
theorem kb_X7_odds : KB yX7_odds cX7_odds 6 (some .int) 2 := ⟨im_X7_odds, sel_X7_odds, ini_X7, cd_X7_odds, by decide +kernel⟩
theorem kb_X7_one : KB yX7_one cX7_one 4 (some .boolean) 0 := ⟨im_X7_one, sel_X7_one, ini_X7, cd_X7_one, by decide +kernel⟩
theorem kb_X7_opens : KB yX7_opens cX7_opens 1 (some .boolean) 0 := ⟨im_X7_opens, sel_X7_opens, ini_X7, cd_X7_opens, by decide +kernel⟩
theorem kb_X7_partsAs : KB yX7_partsAs cX7_partsAs 5 (some .int) 2 := ⟨im_X7_partsAs, sel_X7_partsAs, ini_X7, cd_X7_partsAs, by decide +kernel⟩
theorem kb_X7_person : KB yX7_person cX7_person 5 (some .int) 3 := ⟨im_X7_person, sel_X7_person, ini_X7, cd_X7_person, by decide +kernel⟩
theorem kb_X7_personIs : KB yX7_personIs cX7_personIs 3 (some .int) 2 := ⟨im_X7_personIs, sel_X7_personIs, ini_X7, cd_X7_personIs, by decide +kernel⟩
theorem kb_X7_product : KB yX7_product cX7_product 2 (some .boolean) 0 := ⟨im_X7_product, sel_X7_product, ini_X7, cd_X7_product, by decide +kernel⟩
theorem kb_X7_put : KB yX7_put cX7_put 5 (some .int) 3 := ⟨im_X7_put, sel_X7_put, ini_X7, cd_X7_put, by decide +kernel⟩
theorem kb_X7_rank : KB yX7_rank cX7_rank 4 (some .int) 1 := ⟨im_X7_rank, sel_X7_rank, ini_X7, cd_X7_rank, by decide +kernel⟩
theorem kb_X7_readsOf : KB yX7_readsOf cX7_readsOf 5 (some .int) 2 := ⟨im_X7_readsOf, sel_X7_readsOf, ini_X7, cd_X7_readsOf, by decide +kernel⟩
theorem kb_X7_restore : KB yX7_restore cX7_restore 1 (some .int) 0 := ⟨im_X7_restore, sel_X7_restore, ini_X7, cd_X7_restore, by decide +kernel⟩
theorem kb_X7_seed : KB yX7_seed cX7_seed 2 (some .int) 1 := ⟨im_X7_seed, sel_X7_seed, ini_X7, cd_X7_seed, by decide +kernel⟩
theorem kb_X7_seems : KB yX7_seems cX7_seems 3 (some .int) 2 := ⟨im_X7_seems, sel_X7_seems, ini_X7, cd_X7_seems, by decide +kernel⟩
theorem kb_X7_settles : KB yX7_settles cX7_settles 2 (some .int) 0 := ⟨im_X7_settles, sel_X7_settles, ini_X7, cd_X7_settles, by decide +kernel⟩
theorem kb_X7_sheet : KB yX7_sheet cX7_sheet 5 (some .int) 3 := ⟨im_X7_sheet, sel_X7_sheet, ini_X7, cd_X7_sheet, by decide +kernel⟩
theorem kb_X7_shows : KB yX7_shows cX7_shows 3 (some .int) 2 := ⟨im_X7_shows, sel_X7_shows, ini_X7, cd_X7_shows, by decide +kernel⟩
theorem kb_X7_sighsAs : KB yX7_sighsAs cX7_sighsAs 3 (some .int) 2 := ⟨im_X7_sighsAs, sel_X7_sighsAs, ini_X7, cd_X7_sighsAs, by decide +kernel⟩
theorem kb_X7_signOf : KB yX7_signOf cX7_signOf 2 (some .int) 1 := ⟨im_X7_signOf, sel_X7_signOf, ini_X7, cd_X7_signOf, by decide +kernel⟩
theorem kb_X7_signTold : KB yX7_signTold cX7_signTold 4 (some .int) 3 := ⟨im_X7_signTold, sel_X7_signTold, ini_X7, cd_X7_signTold, by decide +kernel⟩
theorem kb_X7_signs : KB yX7_signs cX7_signs 8 (some .int) 4 := ⟨im_X7_signs, sel_X7_signs, ini_X7, cd_X7_signs, by decide +kernel⟩
theorem kb_X7_starts : KB yX7_starts cX7_starts 2 none 1 := ⟨im_X7_starts, sel_X7_starts, ini_X7, cd_X7_starts, by decide +kernel⟩
theorem kb_X7_step1 : KB yX7_step1 cX7_step1 3 none 2 := ⟨im_X7_step1, sel_X7_step1, ini_X7, cd_X7_step1, by decide +kernel⟩
theorem kb_X7_stirsAs : KB yX7_stirsAs cX7_stirsAs 3 (some .int) 2 := ⟨im_X7_stirsAs, sel_X7_stirsAs, ini_X7, cd_X7_stirsAs, by decide +kernel⟩
theorem kb_X7_sum : KB yX7_sum cX7_sum 2 (some .boolean) 0 := ⟨im_X7_sum, sel_X7_sum, ini_X7, cd_X7_sum, by decide +kernel⟩
theorem kb_X7_taken : KB yX7_taken cX7_taken 3 (some .int) 2 := ⟨im_X7_taken, sel_X7_taken, ini_X7, cd_X7_taken, by decide +kernel⟩
theorem kb_X7_takes : KB yX7_takes cX7_takes 3 (some .int) 2 := ⟨im_X7_takes, sel_X7_takes, ini_X7, cd_X7_takes, by decide +kernel⟩
theorem kb_X7_takesTold : KB yX7_takesTold cX7_takesTold 4 (some .int) 3 := ⟨im_X7_takesTold, sel_X7_takesTold, ini_X7, cd_X7_takesTold, by decide +kernel⟩
theorem kb_X7_tell : KB yX7_tell cX7_tell 2 (some .int) 1 := ⟨im_X7_tell, sel_X7_tell, ini_X7, cd_X7_tell, by decide +kernel⟩
theorem kb_X7_tellsOf : KB yX7_tellsOf cX7_tellsOf 4 (some .int) 1 := ⟨im_X7_tellsOf, sel_X7_tellsOf, ini_X7, cd_X7_tellsOf, by decide +kernel⟩
theorem kb_X7_text : KB yX7_text cX7_text 5 (some .int) 1 := ⟨im_X7_text, sel_X7_text, ini_X7, cd_X7_text, by decide +kernel⟩
theorem kb_X7_then : KB yX7_then cX7_then 5 (some .int) 3 := ⟨im_X7_then, sel_X7_then, ini_X7, cd_X7_then, by decide +kernel⟩
theorem kb_X7_told : KB yX7_told cX7_told 2 (some .int) 1 := ⟨im_X7_told, sel_X7_told, ini_X7, cd_X7_told, by decide +kernel⟩
theorem kb_X7_untell : KB yX7_untell cX7_untell 3 (some .int) 1 := ⟨im_X7_untell, sel_X7_untell, ini_X7, cd_X7_untell, by decide +kernel⟩
theorem kb_X7_voice : KB yX7_voice cX7_voice 6 (some .int) 3 := ⟨im_X7_voice, sel_X7_voice, ini_X7, cd_X7_voice, by decide +kernel⟩
theorem kb_X7_whole : KB yX7_whole cX7_whole 1 (some .boolean) 0 := ⟨im_X7_whole, sel_X7_whole, ini_X7, cd_X7_whole, by decide +kernel⟩
theorem kb_X7_whyNot : KB yX7_whyNot cX7_whyNot 3 (some .int) 2 := ⟨im_X7_whyNot, sel_X7_whyNot, ini_X7, cd_X7_whyNot, by decide +kernel⟩
theorem kb_X7_worked : KB yX7_worked cX7_worked 7 (some .int) 1 := ⟨im_X7_worked, sel_X7_worked, ini_X7, cd_X7_worked, by decide +kernel⟩
def wd_law0 (G : Gt) (b : Nat → Nat) (people taped waiting z : Int32) : va_W := [(b 0, .inr (4, [.int people, .ref (b 1), .ref (b 2), .ref (b 3), .ref (b 4), .ref (b 7), .ref (b 10), .ref (b 13), .int taped, .ref (b 14), .int waiting, .int z]))]
theorem c_X4_lawOf (l : Launch) (G : Gt) (b : Nat → Nat) (people taped waiting z : Int32) (p1 : Int32) : CR l G yX4_lawOf (.code yX4_lawOf cX4_lawOf 2 (some (.object "GoingAbout$Law")) :: wsG) (rmm 0 0) [.ref (b 0), .int p1] (wd_law0 G b people taped waiting z) (fun a => (p1 = 1 → a = b 10) ∧ (¬ p1 = 1 → a = b 7)) := by
  refine cr_intro (by decide) rfl rfl (Nat.le_of_ble_eq_true rfl) ?_
  intro p e s m args below meth c A H ls Q C hW hS hl ret
  have hx := C.1.1
  have hb := C.1.2.1
  have hl : lv_has ls 2 [(0, .ref (b 0)), (1, .int p1)] := hl
  refine lv_iload_n hx hb dX4_lawOf_0 rfl (lv_at hl 1 rfl) ?_
  refine lv_iconst (v := 1) hx hb dX4_lawOf_1 kic_1 ?_
  refine lv_icmp_ne (tgt := 12) hx hb dX4_lawOf_2 (by decide) (fun c_1 => ?_) (fun c_1 => ?_)
  · refine lv_aload_n hx hb dX4_lawOf_12 rfl (lv_at hl 0 rfl) ?_
    refine q_get C kc4 hW 0 rfl 5 (by decide) fl_X4_33 rfl rfl dX4_lawOf_13 ?_
    exact ret (b 7) H [] ls _ hW hS ⟨fun h => absurd h c_1, fun _ => rfl⟩ dX4_lawOf_16
  · refine lv_aload_n hx hb dX4_lawOf_5 rfl (lv_at hl 0 rfl) ?_
    refine q_get C kc4 hW 0 rfl 6 (by decide) fl_X4_37 rfl rfl dX4_lawOf_6 ?_
    refine lv_goto (tgt := 16) hx hb dX4_lawOf_9 (by decide) ?_
    exact ret (b 10) H [] ls _ hW hS ⟨fun _ => rfl, fun h => absurd c_1 h⟩ dX4_lawOf_16
end
section
def wd_J1_0 (G : Gt) : va_W := []
def v_J0_coder_7d493k0 (K : Int32 → Prop) : Prop := K (0 : Int32)
def v_J0_isLatin1_aae02k0 (K : Int32 → Prop) : Prop := K (1 : Int32)
def v_J0_length_8abf5k0 (K : Int32 → Prop) : Prop := K ((3 : Int32) >>> ((0 : Int32) &&& 31))
def v_J1_canEncode_9a6ad (p1 : Int32) (K : Int32 → Prop) : Prop := ((p1 < 0 → K (0 : Int32)) ∧ (¬ p1 < 0 → (((255 : Int32) < p1 → K (0 : Int32)) ∧ (¬ (255 : Int32) < p1 → K (1 : Int32)))))
def l_J1_indexOfChar_4cfefk0_7 (p2 : Int32) (p3 : Int32) (p4 : Int32) (K : Int32 → Prop) : Nat → Int32 → Int32 → Prop
  | 0, _, _ => False
  | n + 1, x4, x5 => ((p4 ≤ x5 → K (-1 : Int32)) ∧ (¬ p4 ≤ x5 → (vp_in x5 3 ∧ ((¬ (f_str 0 x5.toNatClampNeg) = x4 → l_J1_indexOfChar_4cfefk0_7 p2 p3 p4 K n x4 (x5 + 1)) ∧ ((f_str 0 x5.toNatClampNeg) = x4 → K x5)))))
def v_J1_indexOfChar_4cfefk0 (p2 : Int32) (p3 : Int32) (p4 : Int32) (K : Int32 → Prop) : Prop := (∃ n_4, l_J1_indexOfChar_4cfefk0_7 p2 p3 p4 K n_4 p2.toInt8.toInt32 p3)
def v_J1_indexOf_4cfefk0 (p2 : Int32) (p3 : Int32) (p4 : Int32) (K : Int32 → Prop) : Prop := v_J1_canEncode_9a6ad p2 (fun r_1 => ((¬ r_1 = 0 → (((if p3 < (0 : Int32) then (0 : Int32) else p3) < (if (3 : Int32) < p4 then (3 : Int32) else p4) → v_J1_indexOfChar_4cfefk0 p2 (if p3 < (0 : Int32) then (0 : Int32) else p3) (if (3 : Int32) < p4 then (3 : Int32) else p4) (fun r_5 => K r_5)) ∧ (¬ (if p3 < (0 : Int32) then (0 : Int32) else p3) < (if (3 : Int32) < p4 then (3 : Int32) else p4) → K (-1 : Int32)))) ∧ (r_1 = 0 → K (-1 : Int32))))
def v_J0_indexOf_7cf53k0 (p1 : Int32) (p2 : Int32) (K : Int32 → Prop) : Prop := v_J1_indexOf_4cfefk0 p1 p2 (3 : Int32) (fun r_6 => K r_6)
def v_J0_indexOf_0f7a4k0 (p1 : Int32) (K : Int32 → Prop) : Prop := v_J0_indexOf_7cf53k0 p1 (0 : Int32) (fun r_1 => K r_1)
def v_J0_coder_7d493k1 (K : Int32 → Prop) : Prop := K (0 : Int32)
def v_J0_isLatin1_aae02k1 (K : Int32 → Prop) : Prop := K (1 : Int32)
def v_J0_length_8abf5k1 (K : Int32 → Prop) : Prop := K ((3 : Int32) >>> ((0 : Int32) &&& 31))
def l_J1_indexOfChar_4cfefk1_7 (p2 : Int32) (p3 : Int32) (p4 : Int32) (K : Int32 → Prop) : Nat → Int32 → Int32 → Prop
  | 0, _, _ => False
  | n + 1, x4, x5 => ((p4 ≤ x5 → K (-1 : Int32)) ∧ (¬ p4 ≤ x5 → (vp_in x5 3 ∧ ((¬ (f_str 1 x5.toNatClampNeg) = x4 → l_J1_indexOfChar_4cfefk1_7 p2 p3 p4 K n x4 (x5 + 1)) ∧ ((f_str 1 x5.toNatClampNeg) = x4 → K x5)))))
def v_J1_indexOfChar_4cfefk1 (p2 : Int32) (p3 : Int32) (p4 : Int32) (K : Int32 → Prop) : Prop := (∃ n_4, l_J1_indexOfChar_4cfefk1_7 p2 p3 p4 K n_4 p2.toInt8.toInt32 p3)
def v_J1_indexOf_4cfefk1 (p2 : Int32) (p3 : Int32) (p4 : Int32) (K : Int32 → Prop) : Prop := v_J1_canEncode_9a6ad p2 (fun r_1 => ((¬ r_1 = 0 → (((if p3 < (0 : Int32) then (0 : Int32) else p3) < (if (3 : Int32) < p4 then (3 : Int32) else p4) → v_J1_indexOfChar_4cfefk1 p2 (if p3 < (0 : Int32) then (0 : Int32) else p3) (if (3 : Int32) < p4 then (3 : Int32) else p4) (fun r_5 => K r_5)) ∧ (¬ (if p3 < (0 : Int32) then (0 : Int32) else p3) < (if (3 : Int32) < p4 then (3 : Int32) else p4) → K (-1 : Int32)))) ∧ (r_1 = 0 → K (-1 : Int32))))
def v_J0_indexOf_7cf53k1 (p1 : Int32) (p2 : Int32) (K : Int32 → Prop) : Prop := v_J1_indexOf_4cfefk1 p1 p2 (3 : Int32) (fun r_6 => K r_6)
def v_J0_indexOf_0f7a4k1 (p1 : Int32) (K : Int32 → Prop) : Prop := v_J0_indexOf_7cf53k1 p1 (0 : Int32) (fun r_1 => K r_1)
def v_X0_named (p1 : Int32) (p2 : Int32) (p3 : Int32) (p4 : Int32) (K : Int32 → Prop) : Prop := ((¬ p1 = (-1 : Int32) → ((¬ p1 = (-2 : Int32) → K p4) ∧ (p1 = (-2 : Int32) → K p3))) ∧ (p1 = (-1 : Int32) → K p2))
end
section
set_option maxHeartbeats 4000000 in
set_option maxRecDepth 100000 in
theorem c_J0_coder_7d493k0 (l : Launch) (G : Gt) (K : Int32 → Prop) (hv : v_J0_coder_7d493k0 K) : CI l G yJ0_coder_7d493 (.code yJ0_coder_7d493 cJ0_coder_7d493 1 (some .byte) :: wsG) (rmm 0 0) [.ref (G.2.2.2.2.1 0)] [] (S := Unit) (fun _ => []) (fun r u => K r) := by
  refine ci_intro (by decide) rfl (fun _ => rfl) (Nat.le_of_ble_eq_true rfl) ?_
  intro p e s m args below meth c A H ls Q C hW hS hl ret
  have hx := C.1.1
  have hb := C.1.2.1
  generalize hls : ([] : List Loc) = locs at hS ⊢
  have hl : lv_has ls 1 [(0, .ref (G.2.2.2.2.1 0))] := hl
  refine va_gets hx hb C.2.2.1.2.1.2.2.2 hS C.1.2.2.2.1 (C.hts fl_J0_38) (fun _ h => h) dJ0_coder_7d493_0 ?_
  refine lv_if_eq (tgt := 13) hx hb dJ0_coder_7d493_3 (by decide) (fun c_1 => ?_) (fun c_1 => ?_)
  · exact absurd c_1 (by decide)
  · refine lv_aload_n hx hb dJ0_coder_7d493_6 rfl (lv_at hl 0 rfl) ?_
    refine vk_getf hx hb (C.2.2.1.2.1.2.2.1.1 0 (by decide)).2.1 hS C.1.2.2.2.1 (C.hts fl_J0_15) (fun _ h => h) dJ0_coder_7d493_7 ?_
    refine lv_goto (tgt := 14) hx hb dJ0_coder_7d493_10 (by decide) ?_
    exact ret () (0 : Int32) H locs ls _ rfl hW hS hv dJ0_coder_7d493_14
set_option maxHeartbeats 4000000 in
set_option maxRecDepth 100000 in
theorem c_J0_isLatin1_aae02k0 (l : Launch) (G : Gt) (K : Int32 → Prop) (hv : v_J0_isLatin1_aae02k0 K) : CI l G yJ0_isLatin1_aae02 (.code yJ0_isLatin1_aae02 cJ0_isLatin1_aae02 1 (some .boolean) :: wsG) (rmm 0 0) [.ref (G.2.2.2.2.1 0)] [] (S := Unit) (fun _ => []) (fun r u => (r = 0 ∨ r = 1) ∧ K r) := by
  refine ci_intro (by decide) rfl (fun _ => rfl) (Nat.le_of_ble_eq_true rfl) ?_
  intro p e s m args below meth c A H ls Q C hW hS hl ret
  have hx := C.1.1
  have hb := C.1.2.1
  generalize hls : ([] : List Loc) = locs at hS ⊢
  have hl : lv_has ls 1 [(0, .ref (G.2.2.2.2.1 0))] := hl
  refine va_gets hx hb C.2.2.1.2.1.2.2.2 hS C.1.2.2.2.1 (C.hts fl_J0_38) (fun _ h => h) dJ0_isLatin1_aae02_0 ?_
  refine lv_if_eq (tgt := 17) hx hb dJ0_isLatin1_aae02_3 (by decide) (fun c_1 => ?_) (fun c_1 => ?_)
  · exact absurd c_1 (by decide)
  · refine lv_aload_n hx hb dJ0_isLatin1_aae02_6 rfl (lv_at hl 0 rfl) ?_
    refine vk_getf hx hb (C.2.2.1.2.1.2.2.1.1 0 (by decide)).2.1 hS C.1.2.2.2.1 (C.hts fl_J0_15) (fun _ h => h) dJ0_isLatin1_aae02_7 ?_
    refine lv_if_ne (tgt := 17) hx hb dJ0_isLatin1_aae02_10 (by decide) (fun c_2 => ?_) (fun c_2 => ?_)
    · exact absurd c_2 (by decide)
    · refine lv_iconst (v := 1) hx hb dJ0_isLatin1_aae02_13 kic_1 ?_
      refine lv_goto (tgt := 18) hx hb dJ0_isLatin1_aae02_14 (by decide) ?_
      exact ret () (1 : Int32) H locs ls _ (bl_narrow (Or.inr rfl)) hW hS ⟨(Or.inr rfl), hv⟩ dJ0_isLatin1_aae02_18
set_option maxHeartbeats 4000000 in
set_option maxRecDepth 100000 in
theorem c_J0_length_8abf5k0 (l : Launch) (G : Gt) (K : Int32 → Prop) (hv : v_J0_length_8abf5k0 K) : CI l G yJ0_length_8abf5 (.code yJ0_length_8abf5 cJ0_length_8abf5 1 (some .int) :: wsG) (rmm 1 20) [.ref (G.2.2.2.2.1 0)] [] (S := Unit) (fun _ => []) (fun r u => K r) := by
  refine ci_intro (by decide) rfl (fun _ => rfl) (Nat.le_of_ble_eq_true rfl) ?_
  intro p e s m args below meth c A H ls Q C hW hS hl ret
  have hx := C.1.1
  have hb := C.1.2.1
  generalize hls : ([] : List Loc) = locs at hS ⊢
  have hl : lv_has ls 1 [(0, .ref (G.2.2.2.2.1 0))] := hl
  refine lv_aload_n hx hb dJ0_length_8abf5_0 rfl (lv_at hl 0 rfl) ?_
  refine vk_getf hx hb (C.2.2.1.2.1.2.2.1.1 0 (by decide)).2.2.1 hS C.1.2.2.2.1 (C.hts fl_J0_9) (fun _ h => h) dJ0_length_8abf5_1 ?_
  refine va_tlen (v := 3) hx hb (C.2.2.1.2.1.2.2.1.1 0 (by decide)).2.2.2 hS kal_3 dJ0_length_8abf5_4 ?_
  refine lv_aload_n hx hb dJ0_length_8abf5_5 rfl (lv_at hl 0 rfl) ?_
  refine q_callVs (i := 0) (rest := [.int (3 : Int32)]) (n := 0) C (c_J0_coder_7d493k0 l G (fun r => r = (0 : Int32)) rfl) ml_J0_335 kb_J0_coder_7d493 rfl ⟨⟨rfl, rfl⟩, (Nat.le_of_ble_eq_true rfl), (Nat.le_of_ble_eq_true rfl)⟩ hW hS (by decide) rfl hl.1 rfl (Nat.le_of_ble_eq_true rfl) dJ0_length_8abf5_6 ⟨Nat.zero_le _, Nat.zero_le _⟩ (fun r_1 u_2 H locs hv9 hW hS => ?_)
  subst hv9
  refine lv_ishr hx hb dJ0_length_8abf5_9 ?_
  exact ret () ((3 : Int32) >>> ((0 : Int32) &&& 31)) H locs ls _ rfl hW hS hv dJ0_length_8abf5_10
set_option maxHeartbeats 4000000 in
set_option maxRecDepth 100000 in
theorem c_J1_canEncode_9a6ad (l : Launch) (G : Gt) (p1 : Int32) (K : Int32 → Prop) (hv : v_J1_canEncode_9a6ad p1 K) : CI l G yJ1_canEncode_9a6ad (.code yJ1_canEncode_9a6ad cJ1_canEncode_9a6ad 1 (some .boolean) :: wsG) (rmm 0 0) [.int p1] [] (S := Unit) (fun _ => []) (fun r u => (r = 0 ∨ r = 1) ∧ K r) := by
  refine ci_intro (by decide) rfl (fun _ => rfl) (Nat.le_of_ble_eq_true rfl) ?_
  intro p e s m args below meth c A H ls Q C hW hS hl ret
  have hx := C.1.1
  have hb := C.1.2.1
  generalize hls : ([] : List Loc) = locs at hS ⊢
  have hl : lv_has ls 1 [(0, .int p1)] := hl
  refine lv_iload_n hx hb dJ1_canEncode_9a6ad_0 rfl (lv_at hl 0 rfl) ?_
  refine lv_if_lt (tgt := 15) hx hb dJ1_canEncode_9a6ad_1 (by decide) (fun c_1 => ?_) (fun c_1 => ?_)
  · replace hv := hv.1 c_1
    refine lv_iconst (v := 0) hx hb dJ1_canEncode_9a6ad_15 kic_0 ?_
    exact ret () (0 : Int32) H locs ls _ (bl_narrow (Or.inl rfl)) hW hS ⟨(Or.inl rfl), hv⟩ dJ1_canEncode_9a6ad_16
  · replace hv := hv.2 c_1
    refine lv_iload_n hx hb dJ1_canEncode_9a6ad_4 rfl (lv_at hl 0 rfl) ?_
    refine lv_sipush (v := 255) hx hb dJ1_canEncode_9a6ad_5 ksp_255 ?_
    refine lv_icmp_gt (tgt := 15) hx hb dJ1_canEncode_9a6ad_8 (by decide) (fun c_2 => ?_) (fun c_2 => ?_)
    · replace hv := hv.1 c_2
      refine lv_iconst (v := 0) hx hb dJ1_canEncode_9a6ad_15 kic_0 ?_
      exact ret () (0 : Int32) H locs ls _ (bl_narrow (Or.inl rfl)) hW hS ⟨(Or.inl rfl), hv⟩ dJ1_canEncode_9a6ad_16
    · replace hv := hv.2 c_2
      refine lv_iconst (v := 1) hx hb dJ1_canEncode_9a6ad_11 kic_1 ?_
      refine lv_goto (tgt := 16) hx hb dJ1_canEncode_9a6ad_12 (by decide) ?_
      exact ret () (1 : Int32) H locs ls _ (bl_narrow (Or.inr rfl)) hW hS ⟨(Or.inr rfl), hv⟩ dJ1_canEncode_9a6ad_16
set_option maxHeartbeats 4000000 in
set_option maxRecDepth 100000 in
theorem c_J1_indexOfChar_4cfefk0 (l : Launch) (G : Gt) (p2 : Int32) (p3 : Int32) (p4 : Int32) (K : Int32 → Prop) (hv : v_J1_indexOfChar_4cfefk0 p2 p3 p4 K) : CI l G yJ1_indexOfChar_4cfef (.code yJ1_indexOfChar_4cfef cJ1_indexOfChar_4cfef 6 (some .int) :: wsG) (rmm 0 0) [.ref (G.2.2.2.2.2 0), .int p2, .int p3, .int p4] [] (S := Unit) (fun _ => []) (fun r u => K r) := by
  refine ci_intro (by decide) rfl (fun _ => rfl) (Nat.le_of_ble_eq_true rfl) ?_
  intro p e s m args below meth c A H ls Q C hW hS hl ret
  have hx := C.1.1
  have hb := C.1.2.1
  generalize hls : ([] : List Loc) = locs at hS ⊢
  have hl : lv_has ls 6 [(0, .ref (G.2.2.2.2.2 0)), (1, .int p2), (2, .int p3), (3, .int p4)] := hl
  have h_l_J1_indexOfChar_4cfefk0_7 : ∀ (n : Nat), ∀ (x4 : Int32) (x5 : Int32) (H : Heap) (locs : List Loc) (ls : Array Slot), wo G A (wd_J1_0 G) H → va_S A s.heap H locs → lv_has ls 6 [(0, .ref (G.2.2.2.2.2 0)), (3, .int p4), (4, .int x4), (5, .int x5)] → l_J1_indexOfChar_4cfefk0_7 p2 p3 p4 K n x4 x5 → W p l e (rmm 0 0) s m args below meth c H locs 0 0 Q (F0 m 7 ls []) := by
    intro n
    induction n with
    | zero =>
      intro x4 x5 H locs ls hW hS hl hv
      exact False.elim hv
    | succ n ih =>
      intro x4 x5 H locs ls hW hS hl hv
      refine lv_iload hx hb dJ1_indexOfChar_4cfef_7 (lv_at hl 3 rfl) ?_
      refine lv_iload_n hx hb dJ1_indexOfChar_4cfef_9 rfl (lv_at hl 1 rfl) ?_
      refine lv_icmp_ge (tgt := 31) hx hb dJ1_indexOfChar_4cfef_10 (by decide) (fun c_1 => ?_) (fun c_1 => ?_)
      · replace hv := hv.1 c_1
        refine lv_iconst (v := (-1)) hx hb dJ1_indexOfChar_4cfef_31 kic_m1 ?_
        exact ret () (-1 : Int32) H locs ls _ rfl hW hS hv dJ1_indexOfChar_4cfef_32
      · replace hv := hv.2 c_1
        refine lv_aload_n hx hb dJ1_indexOfChar_4cfef_13 rfl (lv_at hl 0 rfl) ?_
        refine lv_iload hx hb dJ1_indexOfChar_4cfef_14 (lv_at hl 3 rfl) ?_
        obtain ⟨h_2, hv⟩ := hv
        refine va_tb (v := .int (f_str 0 x5.toNatClampNeg)) hx hb (C.2.2.1.2.1.2.2.1.1 0 (by decide)).2.2.2 hS h_2 rfl dJ1_indexOfChar_4cfef_16 ?_
        refine lv_iload hx hb dJ1_indexOfChar_4cfef_17 (lv_at hl 2 rfl) ?_
        refine lv_icmp_ne (tgt := 25) hx hb dJ1_indexOfChar_4cfef_19 (by decide) (fun c_3 => ?_) (fun c_3 => ?_)
        · replace hv := hv.1 c_3
          refine lv_iinc (v := (x5 + 1)) (lv' := [(5, .int (x5 + 1)), (0, .ref (G.2.2.2.2.2 0)), (3, .int p4), (4, .int x4)]) hx hb dJ1_indexOfChar_4cfef_25 hl (k := 3) rfl rfl (by decide) rfl (fun ls hl => ?_)
          refine lv_goto (tgt := 7) hx hb dJ1_indexOfChar_4cfef_28 (by decide) ?_
          exact ih x4 (x5 + 1) H locs ls hW hS (lv_sub hl [1, 2, 3, 0] rfl) hv
        · replace hv := hv.2 c_3
          refine lv_iload hx hb dJ1_indexOfChar_4cfef_22 (lv_at hl 3 rfl) ?_
          exact ret () x5 H locs ls _ rfl hW hS hv dJ1_indexOfChar_4cfef_24
  refine lv_iload_n hx hb dJ1_indexOfChar_4cfef_0 rfl (lv_at hl 1 rfl) ?_
  refine lv_i2b hx hb dJ1_indexOfChar_4cfef_1 rfl ?_
  refine lv_istore (lv' := [(4, .int p2.toInt8.toInt32), (0, .ref (G.2.2.2.2.2 0)), (1, .int p2), (2, .int p3), (3, .int p4)]) hx hb dJ1_indexOfChar_4cfef_2 hl (by decide) rfl (fun ls hl => ?_)
  refine lv_iload_n hx hb dJ1_indexOfChar_4cfef_4 rfl (lv_at hl 3 rfl) ?_
  refine lv_istore (lv' := [(5, .int p3), (4, .int p2.toInt8.toInt32), (0, .ref (G.2.2.2.2.2 0)), (1, .int p2), (2, .int p3), (3, .int p4)]) hx hb dJ1_indexOfChar_4cfef_5 hl (by decide) rfl (fun ls hl => ?_)
  obtain ⟨n_4, hv⟩ := hv
  exact h_l_J1_indexOfChar_4cfefk0_7 n_4 p2.toInt8.toInt32 p3 H locs ls hW hS (lv_sub hl [2, 5, 1, 0] rfl) hv
set_option maxHeartbeats 4000000 in
set_option maxRecDepth 100000 in
theorem c_J1_indexOf_4cfefk0 (l : Launch) (G : Gt) (p2 : Int32) (p3 : Int32) (p4 : Int32) (K : Int32 → Prop) (hv : v_J1_indexOf_4cfefk0 p2 p3 p4 K) : CI l G yJ1_indexOf_4cfef (.code yJ1_indexOf_4cfef cJ1_indexOf_4cfef 4 (some .int) :: wsG) (rmm 1 25) [.ref (G.2.2.2.2.2 0), .int p2, .int p3, .int p4] [] (S := Unit) (fun _ => []) (fun r u => K r) := by
  refine ci_intro (by decide) rfl (fun _ => rfl) (Nat.le_of_ble_eq_true rfl) ?_
  intro p e s m args below meth c A H ls Q C hW hS hl ret
  have hx := C.1.1
  have hb := C.1.2.1
  generalize hls : ([] : List Loc) = locs at hS ⊢
  have hl : lv_has ls 4 [(0, .ref (G.2.2.2.2.2 0)), (1, .int p2), (2, .int p3), (3, .int p4)] := hl
  refine lv_iload_n hx hb dJ1_indexOf_4cfef_0 rfl (lv_at hl 1 rfl) ?_
  refine q_callS (rest := []) (n := 1) C (c_J1_canEncode_9a6ad l G p2 _ hv) ml_J1_88 kb_J1_canEncode_9a6ad rfl ⟨⟨rfl, rfl⟩, (Nat.le_of_ble_eq_true rfl), (Nat.le_of_ble_eq_true rfl)⟩ hW hS hl.1 rfl (Nat.le_of_ble_eq_true rfl) dJ1_indexOf_4cfef_1 ⟨Nat.zero_le _, Nat.zero_le _⟩ (fun r_1 u_2 H locs hv hW hS => ?_)
  obtain ⟨hv_b_1, hv⟩ := hv
  try dsimp only at hv
  refine lv_if_ne (tgt := 9) hx hb dJ1_indexOf_4cfef_4 (by decide) (fun c_3 => ?_) (fun c_3 => ?_)
  · replace hv := hv.1 c_3
    refine lv_iload_n hx hb dJ1_indexOf_4cfef_9 rfl (lv_at hl 2 rfl) ?_
    refine lv_iconst (v := 0) hx hb dJ1_indexOf_4cfef_10 kic_0 ?_
    refine va_mmax hx hb (C.1.2.2.1.trans hl.1.symm) C.1.2.2.2.1 (C.hts ml_J1_92) (C.hts st_mmax) (C.hts ini_javalangMath) (C.hts cd_mmax) (Nat.le_of_ble_eq_true rfl) (Nat.le_of_ble_eq_true rfl) (Nat.zero_le _) (Nat.zero_le _) dJ1_indexOf_4cfef_11 ?_
    refine lv_istore_n (lv' := [(2, .int (if p3 < (0 : Int32) then (0 : Int32) else p3)), (0, .ref (G.2.2.2.2.2 0)), (1, .int p2), (3, .int p4)]) hx hb dJ1_indexOf_4cfef_14 rfl hl (by decide) rfl (fun ls hl => ?_)
    refine lv_iload_n hx hb dJ1_indexOf_4cfef_15 rfl (lv_at hl 3 rfl) ?_
    refine lv_aload_n hx hb dJ1_indexOf_4cfef_16 rfl (lv_at hl 1 rfl) ?_
    refine va_tlen (v := 3) hx hb (C.2.2.1.2.1.2.2.1.1 0 (by decide)).2.2.2 hS kal_3 dJ1_indexOf_4cfef_17 ?_
    refine va_mmin hx hb (C.1.2.2.1.trans hl.1.symm) C.1.2.2.2.1 (C.hts ml_J1_38) (C.hts st_mmin) (C.hts ini_javalangMath) (C.hts cd_mmin) (Nat.le_of_ble_eq_true rfl) (Nat.le_of_ble_eq_true rfl) (Nat.zero_le _) (Nat.zero_le _) dJ1_indexOf_4cfef_18 ?_
    refine lv_istore_n (lv' := [(3, .int (if (3 : Int32) < p4 then (3 : Int32) else p4)), (2, .int (if p3 < (0 : Int32) then (0 : Int32) else p3)), (0, .ref (G.2.2.2.2.2 0)), (1, .int p2)]) hx hb dJ1_indexOf_4cfef_21 rfl hl (by decide) rfl (fun ls hl => ?_)
    refine lv_iload_n hx hb dJ1_indexOf_4cfef_22 rfl (lv_at hl 1 rfl) ?_
    refine lv_iload_n hx hb dJ1_indexOf_4cfef_23 rfl (lv_at hl 0 rfl) ?_
    refine lv_icmp_lt (tgt := 29) hx hb dJ1_indexOf_4cfef_24 (by decide) (fun c_4 => ?_) (fun c_4 => ?_)
    · replace hv := hv.1 c_4
      refine lv_aload_n hx hb dJ1_indexOf_4cfef_29 rfl (lv_at hl 2 rfl) ?_
      refine lv_iload_n hx hb dJ1_indexOf_4cfef_30 rfl (lv_at hl 3 rfl) ?_
      refine lv_iload_n hx hb dJ1_indexOf_4cfef_31 rfl (lv_at hl 1 rfl) ?_
      refine lv_iload_n hx hb dJ1_indexOf_4cfef_32 rfl (lv_at hl 0 rfl) ?_
      refine q_callS (rest := []) (n := 4) C (c_J1_indexOfChar_4cfefk0 l G p2 (if p3 < (0 : Int32) then (0 : Int32) else p3) (if (3 : Int32) < p4 then (3 : Int32) else p4) _ hv) ml_J1_95 kb_J1_indexOfChar_4cfef rfl ⟨⟨rfl, rfl⟩, (Nat.le_of_ble_eq_true rfl), (Nat.le_of_ble_eq_true rfl)⟩ hW hS hl.1 rfl (Nat.le_of_ble_eq_true rfl) dJ1_indexOf_4cfef_33 ⟨Nat.zero_le _, Nat.zero_le _⟩ (fun r_5 u_6 H locs hv hW hS => ?_)
      try dsimp only at hv
      exact ret () r_5 H locs ls _ rfl hW hS hv dJ1_indexOf_4cfef_36
    · replace hv := hv.2 c_4
      refine lv_iconst (v := (-1)) hx hb dJ1_indexOf_4cfef_27 kic_m1 ?_
      exact ret () (-1 : Int32) H locs ls _ rfl hW hS hv dJ1_indexOf_4cfef_28
  · replace hv := hv.2 c_3
    refine lv_iconst (v := (-1)) hx hb dJ1_indexOf_4cfef_7 kic_m1 ?_
    exact ret () (-1 : Int32) H locs ls _ rfl hW hS hv dJ1_indexOf_4cfef_8
set_option maxHeartbeats 4000000 in
set_option maxRecDepth 100000 in
theorem c_J0_indexOf_7cf53k0 (l : Launch) (G : Gt) (p1 : Int32) (p2 : Int32) (K : Int32 → Prop) (hv : v_J0_indexOf_7cf53k0 p1 p2 K) : CI l G yJ0_indexOf_7cf53 (.code yJ0_indexOf_7cf53 cJ0_indexOf_7cf53 3 (some .int) :: wsG) (rmm 2 48) [.ref (G.2.2.2.2.1 0), .int p1, .int p2] [] (S := Unit) (fun _ => []) (fun r u => K r) := by
  refine ci_intro (by decide) rfl (fun _ => rfl) (Nat.le_of_ble_eq_true rfl) ?_
  intro p e s m args below meth c A H ls Q C hW hS hl ret
  have hx := C.1.1
  have hb := C.1.2.1
  generalize hls : ([] : List Loc) = locs at hS ⊢
  have hl : lv_has ls 3 [(0, .ref (G.2.2.2.2.1 0)), (1, .int p1), (2, .int p2)] := hl
  refine lv_aload_n hx hb dJ0_indexOf_7cf53_0 rfl (lv_at hl 0 rfl) ?_
  refine q_callVs (i := 0) (rest := []) (n := 0) C (c_J0_isLatin1_aae02k0 l G (fun r => r = (1 : Int32)) rfl) ml_J0_492 kb_J0_isLatin1_aae02 rfl ⟨⟨rfl, rfl⟩, (Nat.le_of_ble_eq_true rfl), (Nat.le_of_ble_eq_true rfl)⟩ hW hS (by decide) rfl hl.1 rfl (Nat.le_of_ble_eq_true rfl) dJ0_indexOf_7cf53_1 ⟨Nat.zero_le _, Nat.zero_le _⟩ (fun r_1 u_2 H locs hv9 hW hS => ?_)
  obtain ⟨hv_b_1, hv9⟩ := hv9
  subst hv9
  refine lv_if_eq (tgt := 23) hx hb dJ0_indexOf_7cf53_4 (by decide) (fun c_3 => ?_) (fun c_3 => ?_)
  · exact absurd c_3 (by decide)
  · refine lv_aload_n hx hb dJ0_indexOf_7cf53_7 rfl (lv_at hl 0 rfl) ?_
    refine vk_getf hx hb (C.2.2.1.2.1.2.2.1.1 0 (by decide)).2.2.1 hS C.1.2.2.2.1 (C.hts fl_J0_9) (fun _ h => h) dJ0_indexOf_7cf53_8 ?_
    refine lv_iload_n hx hb dJ0_indexOf_7cf53_11 rfl (lv_at hl 1 rfl) ?_
    refine lv_iload_n hx hb dJ0_indexOf_7cf53_12 rfl (lv_at hl 2 rfl) ?_
    refine lv_aload_n hx hb dJ0_indexOf_7cf53_13 rfl (lv_at hl 0 rfl) ?_
    refine q_callVs (i := 0) (rest := [.int p2, .int p1, .ref (G.2.2.2.2.2 0)]) (n := 0) C (c_J0_length_8abf5k0 l G (fun r => r = (3 : Int32)) rfl) ml_J0_505 kb_J0_length_8abf5 rfl ⟨⟨rfl, rfl⟩, (Nat.le_of_ble_eq_true rfl), (Nat.le_of_ble_eq_true rfl)⟩ hW hS (by decide) rfl hl.1 rfl (Nat.le_of_ble_eq_true rfl) dJ0_indexOf_7cf53_14 ⟨Nat.zero_le _, Nat.zero_le _⟩ (fun r_4 u_5 H locs hv9 hW hS => ?_)
    subst hv9
    refine q_callS (rest := []) (n := 4) C (c_J1_indexOf_4cfefk0 l G p1 p2 (3 : Int32) _ hv) ml_J0_637 kb_J1_indexOf_4cfef rfl ⟨⟨rfl, rfl⟩, (Nat.le_of_ble_eq_true rfl), (Nat.le_of_ble_eq_true rfl)⟩ hW hS hl.1 rfl (Nat.le_of_ble_eq_true rfl) dJ0_indexOf_7cf53_17 ⟨Nat.zero_le _, Nat.zero_le _⟩ (fun r_6 u_7 H locs hv hW hS => ?_)
    try dsimp only at hv
    refine lv_goto (tgt := 36) hx hb dJ0_indexOf_7cf53_20 (by decide) ?_
    exact ret () r_6 H locs ls _ rfl hW hS hv dJ0_indexOf_7cf53_36
set_option maxHeartbeats 4000000 in
set_option maxRecDepth 100000 in
theorem c_J0_indexOf_0f7a4k0 (l : Launch) (G : Gt) (p1 : Int32) (K : Int32 → Prop) (hv : v_J0_indexOf_0f7a4k0 p1 K) : CI l G yJ0_indexOf_0f7a4 (.code yJ0_indexOf_0f7a4 cJ0_indexOf_0f7a4 2 (some .int) :: wsG) (rmm 3 70) [.ref (G.2.2.2.2.1 0), .int p1] [] (S := Unit) (fun _ => []) (fun r u => K r) := by
  refine ci_intro (by decide) rfl (fun _ => rfl) (Nat.le_of_ble_eq_true rfl) ?_
  intro p e s m args below meth c A H ls Q C hW hS hl ret
  have hx := C.1.1
  have hb := C.1.2.1
  generalize hls : ([] : List Loc) = locs at hS ⊢
  have hl : lv_has ls 2 [(0, .ref (G.2.2.2.2.1 0)), (1, .int p1)] := hl
  refine lv_aload_n hx hb dJ0_indexOf_0f7a4_0 rfl (lv_at hl 0 rfl) ?_
  refine lv_iload_n hx hb dJ0_indexOf_0f7a4_1 rfl (lv_at hl 1 rfl) ?_
  refine lv_iconst (v := 0) hx hb dJ0_indexOf_0f7a4_2 kic_0 ?_
  refine q_callVs (i := 0) (rest := []) (n := 2) C (c_J0_indexOf_7cf53k0 l G p1 (0 : Int32) _ hv) ml_J0_633 kb_J0_indexOf_7cf53 rfl ⟨⟨rfl, rfl⟩, (Nat.le_of_ble_eq_true rfl), (Nat.le_of_ble_eq_true rfl)⟩ hW hS (by decide) rfl hl.1 rfl (Nat.le_of_ble_eq_true rfl) dJ0_indexOf_0f7a4_3 ⟨Nat.zero_le _, Nat.zero_le _⟩ (fun r_1 u_2 H locs hv hW hS => ?_)
  try dsimp only at hv
  exact ret () r_1 H locs ls _ rfl hW hS hv dJ0_indexOf_0f7a4_6
set_option maxHeartbeats 4000000 in
set_option maxRecDepth 100000 in
theorem c_J0_coder_7d493k1 (l : Launch) (G : Gt) (K : Int32 → Prop) (hv : v_J0_coder_7d493k1 K) : CI l G yJ0_coder_7d493 (.code yJ0_coder_7d493 cJ0_coder_7d493 1 (some .byte) :: wsG) (rmm 0 0) [.ref (G.2.2.2.2.1 1)] [] (S := Unit) (fun _ => []) (fun r u => K r) := by
  refine ci_intro (by decide) rfl (fun _ => rfl) (Nat.le_of_ble_eq_true rfl) ?_
  intro p e s m args below meth c A H ls Q C hW hS hl ret
  have hx := C.1.1
  have hb := C.1.2.1
  generalize hls : ([] : List Loc) = locs at hS ⊢
  have hl : lv_has ls 1 [(0, .ref (G.2.2.2.2.1 1))] := hl
  refine va_gets hx hb C.2.2.1.2.1.2.2.2 hS C.1.2.2.2.1 (C.hts fl_J0_38) (fun _ h => h) dJ0_coder_7d493_0 ?_
  refine lv_if_eq (tgt := 13) hx hb dJ0_coder_7d493_3 (by decide) (fun c_1 => ?_) (fun c_1 => ?_)
  · exact absurd c_1 (by decide)
  · refine lv_aload_n hx hb dJ0_coder_7d493_6 rfl (lv_at hl 0 rfl) ?_
    refine vk_getf hx hb (C.2.2.1.2.1.2.2.1.1 1 (by decide)).2.1 hS C.1.2.2.2.1 (C.hts fl_J0_15) (fun _ h => h) dJ0_coder_7d493_7 ?_
    refine lv_goto (tgt := 14) hx hb dJ0_coder_7d493_10 (by decide) ?_
    exact ret () (0 : Int32) H locs ls _ rfl hW hS hv dJ0_coder_7d493_14
set_option maxHeartbeats 4000000 in
set_option maxRecDepth 100000 in
theorem c_J0_isLatin1_aae02k1 (l : Launch) (G : Gt) (K : Int32 → Prop) (hv : v_J0_isLatin1_aae02k1 K) : CI l G yJ0_isLatin1_aae02 (.code yJ0_isLatin1_aae02 cJ0_isLatin1_aae02 1 (some .boolean) :: wsG) (rmm 0 0) [.ref (G.2.2.2.2.1 1)] [] (S := Unit) (fun _ => []) (fun r u => (r = 0 ∨ r = 1) ∧ K r) := by
  refine ci_intro (by decide) rfl (fun _ => rfl) (Nat.le_of_ble_eq_true rfl) ?_
  intro p e s m args below meth c A H ls Q C hW hS hl ret
  have hx := C.1.1
  have hb := C.1.2.1
  generalize hls : ([] : List Loc) = locs at hS ⊢
  have hl : lv_has ls 1 [(0, .ref (G.2.2.2.2.1 1))] := hl
  refine va_gets hx hb C.2.2.1.2.1.2.2.2 hS C.1.2.2.2.1 (C.hts fl_J0_38) (fun _ h => h) dJ0_isLatin1_aae02_0 ?_
  refine lv_if_eq (tgt := 17) hx hb dJ0_isLatin1_aae02_3 (by decide) (fun c_1 => ?_) (fun c_1 => ?_)
  · exact absurd c_1 (by decide)
  · refine lv_aload_n hx hb dJ0_isLatin1_aae02_6 rfl (lv_at hl 0 rfl) ?_
    refine vk_getf hx hb (C.2.2.1.2.1.2.2.1.1 1 (by decide)).2.1 hS C.1.2.2.2.1 (C.hts fl_J0_15) (fun _ h => h) dJ0_isLatin1_aae02_7 ?_
    refine lv_if_ne (tgt := 17) hx hb dJ0_isLatin1_aae02_10 (by decide) (fun c_2 => ?_) (fun c_2 => ?_)
    · exact absurd c_2 (by decide)
    · refine lv_iconst (v := 1) hx hb dJ0_isLatin1_aae02_13 kic_1 ?_
      refine lv_goto (tgt := 18) hx hb dJ0_isLatin1_aae02_14 (by decide) ?_
      exact ret () (1 : Int32) H locs ls _ (bl_narrow (Or.inr rfl)) hW hS ⟨(Or.inr rfl), hv⟩ dJ0_isLatin1_aae02_18
set_option maxHeartbeats 4000000 in
set_option maxRecDepth 100000 in
theorem c_J0_length_8abf5k1 (l : Launch) (G : Gt) (K : Int32 → Prop) (hv : v_J0_length_8abf5k1 K) : CI l G yJ0_length_8abf5 (.code yJ0_length_8abf5 cJ0_length_8abf5 1 (some .int) :: wsG) (rmm 1 20) [.ref (G.2.2.2.2.1 1)] [] (S := Unit) (fun _ => []) (fun r u => K r) := by
  refine ci_intro (by decide) rfl (fun _ => rfl) (Nat.le_of_ble_eq_true rfl) ?_
  intro p e s m args below meth c A H ls Q C hW hS hl ret
  have hx := C.1.1
  have hb := C.1.2.1
  generalize hls : ([] : List Loc) = locs at hS ⊢
  have hl : lv_has ls 1 [(0, .ref (G.2.2.2.2.1 1))] := hl
  refine lv_aload_n hx hb dJ0_length_8abf5_0 rfl (lv_at hl 0 rfl) ?_
  refine vk_getf hx hb (C.2.2.1.2.1.2.2.1.1 1 (by decide)).2.2.1 hS C.1.2.2.2.1 (C.hts fl_J0_9) (fun _ h => h) dJ0_length_8abf5_1 ?_
  refine va_tlen (v := 3) hx hb (C.2.2.1.2.1.2.2.1.1 1 (by decide)).2.2.2 hS kal_3 dJ0_length_8abf5_4 ?_
  refine lv_aload_n hx hb dJ0_length_8abf5_5 rfl (lv_at hl 0 rfl) ?_
  refine q_callVs (i := 1) (rest := [.int (3 : Int32)]) (n := 0) C (c_J0_coder_7d493k1 l G (fun r => r = (0 : Int32)) rfl) ml_J0_335 kb_J0_coder_7d493 rfl ⟨⟨rfl, rfl⟩, (Nat.le_of_ble_eq_true rfl), (Nat.le_of_ble_eq_true rfl)⟩ hW hS (by decide) rfl hl.1 rfl (Nat.le_of_ble_eq_true rfl) dJ0_length_8abf5_6 ⟨Nat.zero_le _, Nat.zero_le _⟩ (fun r_1 u_2 H locs hv9 hW hS => ?_)
  subst hv9
  refine lv_ishr hx hb dJ0_length_8abf5_9 ?_
  exact ret () ((3 : Int32) >>> ((0 : Int32) &&& 31)) H locs ls _ rfl hW hS hv dJ0_length_8abf5_10
set_option maxHeartbeats 4000000 in
set_option maxRecDepth 100000 in
theorem c_J1_indexOfChar_4cfefk1 (l : Launch) (G : Gt) (p2 : Int32) (p3 : Int32) (p4 : Int32) (K : Int32 → Prop) (hv : v_J1_indexOfChar_4cfefk1 p2 p3 p4 K) : CI l G yJ1_indexOfChar_4cfef (.code yJ1_indexOfChar_4cfef cJ1_indexOfChar_4cfef 6 (some .int) :: wsG) (rmm 0 0) [.ref (G.2.2.2.2.2 1), .int p2, .int p3, .int p4] [] (S := Unit) (fun _ => []) (fun r u => K r) := by
  refine ci_intro (by decide) rfl (fun _ => rfl) (Nat.le_of_ble_eq_true rfl) ?_
  intro p e s m args below meth c A H ls Q C hW hS hl ret
  have hx := C.1.1
  have hb := C.1.2.1
  generalize hls : ([] : List Loc) = locs at hS ⊢
  have hl : lv_has ls 6 [(0, .ref (G.2.2.2.2.2 1)), (1, .int p2), (2, .int p3), (3, .int p4)] := hl
  have h_l_J1_indexOfChar_4cfefk1_7 : ∀ (n : Nat), ∀ (x4 : Int32) (x5 : Int32) (H : Heap) (locs : List Loc) (ls : Array Slot), wo G A (wd_J1_0 G) H → va_S A s.heap H locs → lv_has ls 6 [(0, .ref (G.2.2.2.2.2 1)), (3, .int p4), (4, .int x4), (5, .int x5)] → l_J1_indexOfChar_4cfefk1_7 p2 p3 p4 K n x4 x5 → W p l e (rmm 0 0) s m args below meth c H locs 0 0 Q (F0 m 7 ls []) := by
    intro n
    induction n with
    | zero =>
      intro x4 x5 H locs ls hW hS hl hv
      exact False.elim hv
    | succ n ih =>
      intro x4 x5 H locs ls hW hS hl hv
      refine lv_iload hx hb dJ1_indexOfChar_4cfef_7 (lv_at hl 3 rfl) ?_
      refine lv_iload_n hx hb dJ1_indexOfChar_4cfef_9 rfl (lv_at hl 1 rfl) ?_
      refine lv_icmp_ge (tgt := 31) hx hb dJ1_indexOfChar_4cfef_10 (by decide) (fun c_1 => ?_) (fun c_1 => ?_)
      · replace hv := hv.1 c_1
        refine lv_iconst (v := (-1)) hx hb dJ1_indexOfChar_4cfef_31 kic_m1 ?_
        exact ret () (-1 : Int32) H locs ls _ rfl hW hS hv dJ1_indexOfChar_4cfef_32
      · replace hv := hv.2 c_1
        refine lv_aload_n hx hb dJ1_indexOfChar_4cfef_13 rfl (lv_at hl 0 rfl) ?_
        refine lv_iload hx hb dJ1_indexOfChar_4cfef_14 (lv_at hl 3 rfl) ?_
        obtain ⟨h_2, hv⟩ := hv
        refine va_tb (v := .int (f_str 1 x5.toNatClampNeg)) hx hb (C.2.2.1.2.1.2.2.1.1 1 (by decide)).2.2.2 hS h_2 rfl dJ1_indexOfChar_4cfef_16 ?_
        refine lv_iload hx hb dJ1_indexOfChar_4cfef_17 (lv_at hl 2 rfl) ?_
        refine lv_icmp_ne (tgt := 25) hx hb dJ1_indexOfChar_4cfef_19 (by decide) (fun c_3 => ?_) (fun c_3 => ?_)
        · replace hv := hv.1 c_3
          refine lv_iinc (v := (x5 + 1)) (lv' := [(5, .int (x5 + 1)), (0, .ref (G.2.2.2.2.2 1)), (3, .int p4), (4, .int x4)]) hx hb dJ1_indexOfChar_4cfef_25 hl (k := 3) rfl rfl (by decide) rfl (fun ls hl => ?_)
          refine lv_goto (tgt := 7) hx hb dJ1_indexOfChar_4cfef_28 (by decide) ?_
          exact ih x4 (x5 + 1) H locs ls hW hS (lv_sub hl [1, 2, 3, 0] rfl) hv
        · replace hv := hv.2 c_3
          refine lv_iload hx hb dJ1_indexOfChar_4cfef_22 (lv_at hl 3 rfl) ?_
          exact ret () x5 H locs ls _ rfl hW hS hv dJ1_indexOfChar_4cfef_24
  refine lv_iload_n hx hb dJ1_indexOfChar_4cfef_0 rfl (lv_at hl 1 rfl) ?_
  refine lv_i2b hx hb dJ1_indexOfChar_4cfef_1 rfl ?_
  refine lv_istore (lv' := [(4, .int p2.toInt8.toInt32), (0, .ref (G.2.2.2.2.2 1)), (1, .int p2), (2, .int p3), (3, .int p4)]) hx hb dJ1_indexOfChar_4cfef_2 hl (by decide) rfl (fun ls hl => ?_)
  refine lv_iload_n hx hb dJ1_indexOfChar_4cfef_4 rfl (lv_at hl 3 rfl) ?_
  refine lv_istore (lv' := [(5, .int p3), (4, .int p2.toInt8.toInt32), (0, .ref (G.2.2.2.2.2 1)), (1, .int p2), (2, .int p3), (3, .int p4)]) hx hb dJ1_indexOfChar_4cfef_5 hl (by decide) rfl (fun ls hl => ?_)
  obtain ⟨n_4, hv⟩ := hv
  exact h_l_J1_indexOfChar_4cfefk1_7 n_4 p2.toInt8.toInt32 p3 H locs ls hW hS (lv_sub hl [2, 5, 1, 0] rfl) hv
set_option maxHeartbeats 4000000 in
set_option maxRecDepth 100000 in
theorem c_J1_indexOf_4cfefk1 (l : Launch) (G : Gt) (p2 : Int32) (p3 : Int32) (p4 : Int32) (K : Int32 → Prop) (hv : v_J1_indexOf_4cfefk1 p2 p3 p4 K) : CI l G yJ1_indexOf_4cfef (.code yJ1_indexOf_4cfef cJ1_indexOf_4cfef 4 (some .int) :: wsG) (rmm 1 25) [.ref (G.2.2.2.2.2 1), .int p2, .int p3, .int p4] [] (S := Unit) (fun _ => []) (fun r u => K r) := by
  refine ci_intro (by decide) rfl (fun _ => rfl) (Nat.le_of_ble_eq_true rfl) ?_
  intro p e s m args below meth c A H ls Q C hW hS hl ret
  have hx := C.1.1
  have hb := C.1.2.1
  generalize hls : ([] : List Loc) = locs at hS ⊢
  have hl : lv_has ls 4 [(0, .ref (G.2.2.2.2.2 1)), (1, .int p2), (2, .int p3), (3, .int p4)] := hl
  refine lv_iload_n hx hb dJ1_indexOf_4cfef_0 rfl (lv_at hl 1 rfl) ?_
  refine q_callS (rest := []) (n := 1) C (c_J1_canEncode_9a6ad l G p2 _ hv) ml_J1_88 kb_J1_canEncode_9a6ad rfl ⟨⟨rfl, rfl⟩, (Nat.le_of_ble_eq_true rfl), (Nat.le_of_ble_eq_true rfl)⟩ hW hS hl.1 rfl (Nat.le_of_ble_eq_true rfl) dJ1_indexOf_4cfef_1 ⟨Nat.zero_le _, Nat.zero_le _⟩ (fun r_1 u_2 H locs hv hW hS => ?_)
  obtain ⟨hv_b_1, hv⟩ := hv
  try dsimp only at hv
  refine lv_if_ne (tgt := 9) hx hb dJ1_indexOf_4cfef_4 (by decide) (fun c_3 => ?_) (fun c_3 => ?_)
  · replace hv := hv.1 c_3
    refine lv_iload_n hx hb dJ1_indexOf_4cfef_9 rfl (lv_at hl 2 rfl) ?_
    refine lv_iconst (v := 0) hx hb dJ1_indexOf_4cfef_10 kic_0 ?_
    refine va_mmax hx hb (C.1.2.2.1.trans hl.1.symm) C.1.2.2.2.1 (C.hts ml_J1_92) (C.hts st_mmax) (C.hts ini_javalangMath) (C.hts cd_mmax) (Nat.le_of_ble_eq_true rfl) (Nat.le_of_ble_eq_true rfl) (Nat.zero_le _) (Nat.zero_le _) dJ1_indexOf_4cfef_11 ?_
    refine lv_istore_n (lv' := [(2, .int (if p3 < (0 : Int32) then (0 : Int32) else p3)), (0, .ref (G.2.2.2.2.2 1)), (1, .int p2), (3, .int p4)]) hx hb dJ1_indexOf_4cfef_14 rfl hl (by decide) rfl (fun ls hl => ?_)
    refine lv_iload_n hx hb dJ1_indexOf_4cfef_15 rfl (lv_at hl 3 rfl) ?_
    refine lv_aload_n hx hb dJ1_indexOf_4cfef_16 rfl (lv_at hl 1 rfl) ?_
    refine va_tlen (v := 3) hx hb (C.2.2.1.2.1.2.2.1.1 1 (by decide)).2.2.2 hS kal_3 dJ1_indexOf_4cfef_17 ?_
    refine va_mmin hx hb (C.1.2.2.1.trans hl.1.symm) C.1.2.2.2.1 (C.hts ml_J1_38) (C.hts st_mmin) (C.hts ini_javalangMath) (C.hts cd_mmin) (Nat.le_of_ble_eq_true rfl) (Nat.le_of_ble_eq_true rfl) (Nat.zero_le _) (Nat.zero_le _) dJ1_indexOf_4cfef_18 ?_
    refine lv_istore_n (lv' := [(3, .int (if (3 : Int32) < p4 then (3 : Int32) else p4)), (2, .int (if p3 < (0 : Int32) then (0 : Int32) else p3)), (0, .ref (G.2.2.2.2.2 1)), (1, .int p2)]) hx hb dJ1_indexOf_4cfef_21 rfl hl (by decide) rfl (fun ls hl => ?_)
    refine lv_iload_n hx hb dJ1_indexOf_4cfef_22 rfl (lv_at hl 1 rfl) ?_
    refine lv_iload_n hx hb dJ1_indexOf_4cfef_23 rfl (lv_at hl 0 rfl) ?_
    refine lv_icmp_lt (tgt := 29) hx hb dJ1_indexOf_4cfef_24 (by decide) (fun c_4 => ?_) (fun c_4 => ?_)
    · replace hv := hv.1 c_4
      refine lv_aload_n hx hb dJ1_indexOf_4cfef_29 rfl (lv_at hl 2 rfl) ?_
      refine lv_iload_n hx hb dJ1_indexOf_4cfef_30 rfl (lv_at hl 3 rfl) ?_
      refine lv_iload_n hx hb dJ1_indexOf_4cfef_31 rfl (lv_at hl 1 rfl) ?_
      refine lv_iload_n hx hb dJ1_indexOf_4cfef_32 rfl (lv_at hl 0 rfl) ?_
      refine q_callS (rest := []) (n := 4) C (c_J1_indexOfChar_4cfefk1 l G p2 (if p3 < (0 : Int32) then (0 : Int32) else p3) (if (3 : Int32) < p4 then (3 : Int32) else p4) _ hv) ml_J1_95 kb_J1_indexOfChar_4cfef rfl ⟨⟨rfl, rfl⟩, (Nat.le_of_ble_eq_true rfl), (Nat.le_of_ble_eq_true rfl)⟩ hW hS hl.1 rfl (Nat.le_of_ble_eq_true rfl) dJ1_indexOf_4cfef_33 ⟨Nat.zero_le _, Nat.zero_le _⟩ (fun r_5 u_6 H locs hv hW hS => ?_)
      try dsimp only at hv
      exact ret () r_5 H locs ls _ rfl hW hS hv dJ1_indexOf_4cfef_36
    · replace hv := hv.2 c_4
      refine lv_iconst (v := (-1)) hx hb dJ1_indexOf_4cfef_27 kic_m1 ?_
      exact ret () (-1 : Int32) H locs ls _ rfl hW hS hv dJ1_indexOf_4cfef_28
  · replace hv := hv.2 c_3
    refine lv_iconst (v := (-1)) hx hb dJ1_indexOf_4cfef_7 kic_m1 ?_
    exact ret () (-1 : Int32) H locs ls _ rfl hW hS hv dJ1_indexOf_4cfef_8
set_option maxHeartbeats 4000000 in
set_option maxRecDepth 100000 in
theorem c_J0_indexOf_7cf53k1 (l : Launch) (G : Gt) (p1 : Int32) (p2 : Int32) (K : Int32 → Prop) (hv : v_J0_indexOf_7cf53k1 p1 p2 K) : CI l G yJ0_indexOf_7cf53 (.code yJ0_indexOf_7cf53 cJ0_indexOf_7cf53 3 (some .int) :: wsG) (rmm 2 48) [.ref (G.2.2.2.2.1 1), .int p1, .int p2] [] (S := Unit) (fun _ => []) (fun r u => K r) := by
  refine ci_intro (by decide) rfl (fun _ => rfl) (Nat.le_of_ble_eq_true rfl) ?_
  intro p e s m args below meth c A H ls Q C hW hS hl ret
  have hx := C.1.1
  have hb := C.1.2.1
  generalize hls : ([] : List Loc) = locs at hS ⊢
  have hl : lv_has ls 3 [(0, .ref (G.2.2.2.2.1 1)), (1, .int p1), (2, .int p2)] := hl
  refine lv_aload_n hx hb dJ0_indexOf_7cf53_0 rfl (lv_at hl 0 rfl) ?_
  refine q_callVs (i := 1) (rest := []) (n := 0) C (c_J0_isLatin1_aae02k1 l G (fun r => r = (1 : Int32)) rfl) ml_J0_492 kb_J0_isLatin1_aae02 rfl ⟨⟨rfl, rfl⟩, (Nat.le_of_ble_eq_true rfl), (Nat.le_of_ble_eq_true rfl)⟩ hW hS (by decide) rfl hl.1 rfl (Nat.le_of_ble_eq_true rfl) dJ0_indexOf_7cf53_1 ⟨Nat.zero_le _, Nat.zero_le _⟩ (fun r_1 u_2 H locs hv9 hW hS => ?_)
  obtain ⟨hv_b_1, hv9⟩ := hv9
  subst hv9
  refine lv_if_eq (tgt := 23) hx hb dJ0_indexOf_7cf53_4 (by decide) (fun c_3 => ?_) (fun c_3 => ?_)
  · exact absurd c_3 (by decide)
  · refine lv_aload_n hx hb dJ0_indexOf_7cf53_7 rfl (lv_at hl 0 rfl) ?_
    refine vk_getf hx hb (C.2.2.1.2.1.2.2.1.1 1 (by decide)).2.2.1 hS C.1.2.2.2.1 (C.hts fl_J0_9) (fun _ h => h) dJ0_indexOf_7cf53_8 ?_
    refine lv_iload_n hx hb dJ0_indexOf_7cf53_11 rfl (lv_at hl 1 rfl) ?_
    refine lv_iload_n hx hb dJ0_indexOf_7cf53_12 rfl (lv_at hl 2 rfl) ?_
    refine lv_aload_n hx hb dJ0_indexOf_7cf53_13 rfl (lv_at hl 0 rfl) ?_
    refine q_callVs (i := 1) (rest := [.int p2, .int p1, .ref (G.2.2.2.2.2 1)]) (n := 0) C (c_J0_length_8abf5k1 l G (fun r => r = (3 : Int32)) rfl) ml_J0_505 kb_J0_length_8abf5 rfl ⟨⟨rfl, rfl⟩, (Nat.le_of_ble_eq_true rfl), (Nat.le_of_ble_eq_true rfl)⟩ hW hS (by decide) rfl hl.1 rfl (Nat.le_of_ble_eq_true rfl) dJ0_indexOf_7cf53_14 ⟨Nat.zero_le _, Nat.zero_le _⟩ (fun r_4 u_5 H locs hv9 hW hS => ?_)
    subst hv9
    refine q_callS (rest := []) (n := 4) C (c_J1_indexOf_4cfefk1 l G p1 p2 (3 : Int32) _ hv) ml_J0_637 kb_J1_indexOf_4cfef rfl ⟨⟨rfl, rfl⟩, (Nat.le_of_ble_eq_true rfl), (Nat.le_of_ble_eq_true rfl)⟩ hW hS hl.1 rfl (Nat.le_of_ble_eq_true rfl) dJ0_indexOf_7cf53_17 ⟨Nat.zero_le _, Nat.zero_le _⟩ (fun r_6 u_7 H locs hv hW hS => ?_)
    try dsimp only at hv
    refine lv_goto (tgt := 36) hx hb dJ0_indexOf_7cf53_20 (by decide) ?_
    exact ret () r_6 H locs ls _ rfl hW hS hv dJ0_indexOf_7cf53_36
set_option maxHeartbeats 4000000 in
set_option maxRecDepth 100000 in
theorem c_J0_indexOf_0f7a4k1 (l : Launch) (G : Gt) (p1 : Int32) (K : Int32 → Prop) (hv : v_J0_indexOf_0f7a4k1 p1 K) : CI l G yJ0_indexOf_0f7a4 (.code yJ0_indexOf_0f7a4 cJ0_indexOf_0f7a4 2 (some .int) :: wsG) (rmm 3 70) [.ref (G.2.2.2.2.1 1), .int p1] [] (S := Unit) (fun _ => []) (fun r u => K r) := by
  refine ci_intro (by decide) rfl (fun _ => rfl) (Nat.le_of_ble_eq_true rfl) ?_
  intro p e s m args below meth c A H ls Q C hW hS hl ret
  have hx := C.1.1
  have hb := C.1.2.1
  generalize hls : ([] : List Loc) = locs at hS ⊢
  have hl : lv_has ls 2 [(0, .ref (G.2.2.2.2.1 1)), (1, .int p1)] := hl
  refine lv_aload_n hx hb dJ0_indexOf_0f7a4_0 rfl (lv_at hl 0 rfl) ?_
  refine lv_iload_n hx hb dJ0_indexOf_0f7a4_1 rfl (lv_at hl 1 rfl) ?_
  refine lv_iconst (v := 0) hx hb dJ0_indexOf_0f7a4_2 kic_0 ?_
  refine q_callVs (i := 1) (rest := []) (n := 2) C (c_J0_indexOf_7cf53k1 l G p1 (0 : Int32) _ hv) ml_J0_633 kb_J0_indexOf_7cf53 rfl ⟨⟨rfl, rfl⟩, (Nat.le_of_ble_eq_true rfl), (Nat.le_of_ble_eq_true rfl)⟩ hW hS (by decide) rfl hl.1 rfl (Nat.le_of_ble_eq_true rfl) dJ0_indexOf_0f7a4_3 ⟨Nat.zero_le _, Nat.zero_le _⟩ (fun r_1 u_2 H locs hv hW hS => ?_)
  try dsimp only at hv
  exact ret () r_1 H locs ls _ rfl hW hS hv dJ0_indexOf_0f7a4_6
set_option maxHeartbeats 4000000 in
set_option maxRecDepth 100000 in
theorem c_X0_named (l : Launch) (G : Gt) (p1 : Int32) (p2 : Int32) (p3 : Int32) (p4 : Int32) (K : Int32 → Prop) (hv : v_X0_named p1 p2 p3 p4 K) : CI l G yX0_named (.code yX0_named cX0_named 4 (some .int) :: wsG) (rmm 0 0) [.int p1, .int p2, .int p3, .int p4] [] (S := Unit) (fun _ => []) (fun r u => K r) := by
  refine ci_intro (by decide) rfl (fun _ => rfl) (Nat.le_of_ble_eq_true rfl) ?_
  intro p e s m args below meth c A H ls Q C hW hS hl ret
  have hx := C.1.1
  have hb := C.1.2.1
  generalize hls : ([] : List Loc) = locs at hS ⊢
  have hl : lv_has ls 4 [(0, .int p1), (1, .int p2), (2, .int p3), (3, .int p4)] := hl
  refine lv_iload_n hx hb dX0_named_0 rfl (lv_at hl 0 rfl) ?_
  refine lv_iconst (v := (-1)) hx hb dX0_named_1 kic_m1 ?_
  refine lv_icmp_ne (tgt := 7) hx hb dX0_named_2 (by decide) (fun c_1 => ?_) (fun c_1 => ?_)
  · replace hv := hv.1 c_1
    refine lv_iload_n hx hb dX0_named_7 rfl (lv_at hl 0 rfl) ?_
    refine lv_bipush (v := (-2)) hx hb dX0_named_8 kbp_m2 ?_
    refine lv_icmp_ne (tgt := 17) hx hb dX0_named_10 (by decide) (fun c_2 => ?_) (fun c_2 => ?_)
    · replace hv := hv.1 c_2
      refine lv_iload_n hx hb dX0_named_17 rfl (lv_at hl 3 rfl) ?_
      exact ret () p4 H locs ls _ rfl hW hS hv dX0_named_18
    · replace hv := hv.2 c_2
      refine lv_iload_n hx hb dX0_named_13 rfl (lv_at hl 2 rfl) ?_
      refine lv_goto (tgt := 18) hx hb dX0_named_14 (by decide) ?_
      exact ret () p3 H locs ls _ rfl hW hS hv dX0_named_18
  · replace hv := hv.2 c_1
    refine lv_iload_n hx hb dX0_named_5 rfl (lv_at hl 1 rfl) ?_
    exact ret () p2 H locs ls _ rfl hW hS hv dX0_named_6
end
