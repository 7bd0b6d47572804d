section
-- ===== PART A: goes FIRST, ahead of the names: the tables' words, and 'selects' of the private methods out of them =====
/-- a private method of a class that the tables say can be made, by its rows of tables_1 -/
def lw_okq (q : MethodName × Nat) : Prop := (q.1.cls ≠ "java/lang/invoke/MethodHandle" ∧ q.1.cls ≠ "java/lang/invoke/VarHandle") ∧ Cond.instantiable q.1.cls q.2 ∈ tables_1 ∧ Cond.privateMethod q.1 ∈ tables_1 ∧ Cond.instanceMethod q.1 ∈ tables_1
theorem lw_p0 : lw_okq (⟨"TwinConsole$MainProcessor", "setMaskAndFlags", "(I)V"⟩, 10) := ⟨⟨by decide +kernel, by decide +kernel⟩, List.mem_of_getElem? (i := 225) (by decide +kernel), List.mem_of_getElem? (i := 302) (by decide +kernel), List.mem_of_getElem? (i := 303) (by decide +kernel)⟩
theorem lw_p1 : lw_okq (⟨"TwinConsole", "oneStep", "()I"⟩, 7) := ⟨⟨by decide +kernel, by decide +kernel⟩, List.mem_of_getElem? (i := 10) (by decide +kernel), List.mem_of_getElem? (i := 322) (by decide +kernel), List.mem_of_getElem? (i := 323) (by decide +kernel)⟩
theorem lw_p2 : lw_okq (⟨"TwinConsole$PictureUnit", "storeWord", "(I)V"⟩, 10) := ⟨⟨by decide +kernel, by decide +kernel⟩, List.mem_of_getElem? (i := 72) (by decide +kernel), List.mem_of_getElem? (i := 343) (by decide +kernel), List.mem_of_getElem? (i := 344) (by decide +kernel)⟩
theorem lw_p3 : lw_okq (⟨"TwinConsole$PictureUnit", "growAddress", "()V"⟩, 10) := ⟨⟨by decide +kernel, by decide +kernel⟩, List.mem_of_getElem? (i := 72) (by decide +kernel), List.mem_of_getElem? (i := 347) (by decide +kernel), List.mem_of_getElem? (i := 348) (by decide +kernel)⟩
theorem lw_p4 : lw_okq (⟨"TwinConsole$PictureUnit", "endMove", "()V"⟩, 10) := ⟨⟨by decide +kernel, by decide +kernel⟩, List.mem_of_getElem? (i := 72) (by decide +kernel), List.mem_of_getElem? (i := 353) (by decide +kernel), List.mem_of_getElem? (i := 354) (by decide +kernel)⟩
theorem lw_p5 : lw_okq (⟨"TwinConsole$MainProcessor", "raise", "(I)V"⟩, 10) := ⟨⟨by decide +kernel, by decide +kernel⟩, List.mem_of_getElem? (i := 225) (by decide +kernel), List.mem_of_getElem? (i := 365) (by decide +kernel), List.mem_of_getElem? (i := 366) (by decide +kernel)⟩
theorem lw_p6 : lw_okq (⟨"TwinConsole$PictureUnit", "moveLength", "()I"⟩, 10) := ⟨⟨by decide +kernel, by decide +kernel⟩, List.mem_of_getElem? (i := 72) (by decide +kernel), List.mem_of_getElem? (i := 382) (by decide +kernel), List.mem_of_getElem? (i := 383) (by decide +kernel)⟩
theorem lw_p7 : lw_okq (⟨"TwinConsole$PictureUnit", "fill", "(II)V"⟩, 10) := ⟨⟨by decide +kernel, by decide +kernel⟩, List.mem_of_getElem? (i := 72) (by decide +kernel), List.mem_of_getElem? (i := 386) (by decide +kernel), List.mem_of_getElem? (i := 387) (by decide +kernel)⟩
theorem lw_p8 : lw_okq (⟨"TwinConsole$PictureUnit", "takeFirstWord", "(I)V"⟩, 10) := ⟨⟨by decide +kernel, by decide +kernel⟩, List.mem_of_getElem? (i := 72) (by decide +kernel), List.mem_of_getElem? (i := 394) (by decide +kernel), List.mem_of_getElem? (i := 395) (by decide +kernel)⟩
theorem lw_p9 : lw_okq (⟨"TwinConsole$PictureUnit", "copy", "(I)V"⟩, 10) := ⟨⟨by decide +kernel, by decide +kernel⟩, List.mem_of_getElem? (i := 72) (by decide +kernel), List.mem_of_getElem? (i := 399) (by decide +kernel), List.mem_of_getElem? (i := 400) (by decide +kernel)⟩
theorem lw_p10 : lw_okq (⟨"TwinConsole$PictureUnit", "halfSource", "()I"⟩, 10) := ⟨⟨by decide +kernel, by decide +kernel⟩, List.mem_of_getElem? (i := 72) (by decide +kernel), List.mem_of_getElem? (i := 403) (by decide +kernel), List.mem_of_getElem? (i := 404) (by decide +kernel)⟩
theorem lw_p11 : lw_okq (⟨"TwinConsole$Bus", "writeMemory", "(II)V"⟩, 8) := ⟨⟨by decide +kernel, by decide +kernel⟩, List.mem_of_getElem? (i := 193) (by decide +kernel), List.mem_of_getElem? (i := 411) (by decide +kernel), List.mem_of_getElem? (i := 412) (by decide +kernel)⟩
theorem lw_p12 : lw_okq (⟨"TwinConsole$MainProcessor", "nextWord", "()I"⟩, 10) := ⟨⟨by decide +kernel, by decide +kernel⟩, List.mem_of_getElem? (i := 225) (by decide +kernel), List.mem_of_getElem? (i := 423) (by decide +kernel), List.mem_of_getElem? (i := 424) (by decide +kernel)⟩
theorem lw_p13 : lw_okq (⟨"TwinConsole$MainProcessor", "moveWord", "(I)I"⟩, 10) := ⟨⟨by decide +kernel, by decide +kernel⟩, List.mem_of_getElem? (i := 225) (by decide +kernel), List.mem_of_getElem? (i := 427) (by decide +kernel), List.mem_of_getElem? (i := 428) (by decide +kernel)⟩
theorem lw_p14 : lw_okq (⟨"TwinConsole$MainProcessor", "load", "(II)V"⟩, 10) := ⟨⟨by decide +kernel, by decide +kernel⟩, List.mem_of_getElem? (i := 225) (by decide +kernel), List.mem_of_getElem? (i := 431) (by decide +kernel), List.mem_of_getElem? (i := 432) (by decide +kernel)⟩
theorem lw_p15 : lw_okq (⟨"TwinConsole$MainProcessor", "setLowWord", "(II)V"⟩, 10) := ⟨⟨by decide +kernel, by decide +kernel⟩, List.mem_of_getElem? (i := 225) (by decide +kernel), List.mem_of_getElem? (i := 435) (by decide +kernel), List.mem_of_getElem? (i := 436) (by decide +kernel)⟩
def lw_privs_1 : List (MethodName × Nat) := [(⟨"TwinConsole$MainProcessor", "setMaskAndFlags", "(I)V"⟩, 10), (⟨"TwinConsole", "oneStep", "()I"⟩, 7), (⟨"TwinConsole$PictureUnit", "storeWord", "(I)V"⟩, 10), (⟨"TwinConsole$PictureUnit", "growAddress", "()V"⟩, 10), (⟨"TwinConsole$PictureUnit", "endMove", "()V"⟩, 10), (⟨"TwinConsole$MainProcessor", "raise", "(I)V"⟩, 10), (⟨"TwinConsole$PictureUnit", "moveLength", "()I"⟩, 10), (⟨"TwinConsole$PictureUnit", "fill", "(II)V"⟩, 10), (⟨"TwinConsole$PictureUnit", "takeFirstWord", "(I)V"⟩, 10), (⟨"TwinConsole$PictureUnit", "copy", "(I)V"⟩, 10), (⟨"TwinConsole$PictureUnit", "halfSource", "()I"⟩, 10), (⟨"TwinConsole$Bus", "writeMemory", "(II)V"⟩, 8), (⟨"TwinConsole$MainProcessor", "nextWord", "()I"⟩, 10), (⟨"TwinConsole$MainProcessor", "moveWord", "(I)I"⟩, 10), (⟨"TwinConsole$MainProcessor", "load", "(II)V"⟩, 10), (⟨"TwinConsole$MainProcessor", "setLowWord", "(II)V"⟩, 10)]
theorem lw_r1 : ∀ q ∈ lw_privs_1, lw_okq q := List.forall_mem_cons.mpr ⟨lw_p0, List.forall_mem_cons.mpr ⟨lw_p1, List.forall_mem_cons.mpr ⟨lw_p2, List.forall_mem_cons.mpr ⟨lw_p3, List.forall_mem_cons.mpr ⟨lw_p4, List.forall_mem_cons.mpr ⟨lw_p5, List.forall_mem_cons.mpr ⟨lw_p6, List.forall_mem_cons.mpr ⟨lw_p7, List.forall_mem_cons.mpr ⟨lw_p8, List.forall_mem_cons.mpr ⟨lw_p9, List.forall_mem_cons.mpr ⟨lw_p10, List.forall_mem_cons.mpr ⟨lw_p11, List.forall_mem_cons.mpr ⟨lw_p12, List.forall_mem_cons.mpr ⟨lw_p13, List.forall_mem_cons.mpr ⟨lw_p14, List.forall_mem_cons.mpr ⟨lw_p15, fun _ h => absurd h List.not_mem_nil⟩⟩⟩⟩⟩⟩⟩⟩⟩⟩⟩⟩⟩⟩⟩⟩
theorem lw_p16 : lw_okq (⟨"TwinConsole$MainProcessor", "setMoveFlags", "(I)V"⟩, 10) := ⟨⟨by decide +kernel, by decide +kernel⟩, List.mem_of_getElem? (i := 225) (by decide +kernel), List.mem_of_getElem? (i := 440) (by decide +kernel), List.mem_of_getElem? (i := 441) (by decide +kernel)⟩
theorem lw_p17 : lw_okq (⟨"TwinConsole$Bus", "readStatus", "()I"⟩, 8) := ⟨⟨by decide +kernel, by decide +kernel⟩, List.mem_of_getElem? (i := 193) (by decide +kernel), List.mem_of_getElem? (i := 456) (by decide +kernel), List.mem_of_getElem? (i := 457) (by decide +kernel)⟩
theorem lw_p18 : lw_okq (⟨"TwinConsole$Bus", "readPad", "()I"⟩, 8) := ⟨⟨by decide +kernel, by decide +kernel⟩, List.mem_of_getElem? (i := 193) (by decide +kernel), List.mem_of_getElem? (i := 461) (by decide +kernel), List.mem_of_getElem? (i := 462) (by decide +kernel)⟩
theorem lw_p19 : lw_okq (⟨"TwinConsole$MainProcessor", "controlMachine", "(I)I"⟩, 10) := ⟨⟨by decide +kernel, by decide +kernel⟩, List.mem_of_getElem? (i := 225) (by decide +kernel), List.mem_of_getElem? (i := 466) (by decide +kernel), List.mem_of_getElem? (i := 467) (by decide +kernel)⟩
theorem lw_p20 : lw_okq (⟨"TwinConsole$MainProcessor", "branch", "(I)I"⟩, 10) := ⟨⟨by decide +kernel, by decide +kernel⟩, List.mem_of_getElem? (i := 225) (by decide +kernel), List.mem_of_getElem? (i := 470) (by decide +kernel), List.mem_of_getElem? (i := 471) (by decide +kernel)⟩
theorem lw_p21 : lw_okq (⟨"TwinConsole$MainProcessor", "conditionHolds", "(I)Z"⟩, 10) := ⟨⟨by decide +kernel, by decide +kernel⟩, List.mem_of_getElem? (i := 225) (by decide +kernel), List.mem_of_getElem? (i := 474) (by decide +kernel), List.mem_of_getElem? (i := 475) (by decide +kernel)⟩
theorem lw_p22 : lw_okq (⟨"TwinConsole$MainProcessor", "moveQuick", "(I)I"⟩, 10) := ⟨⟨by decide +kernel, by decide +kernel⟩, List.mem_of_getElem? (i := 225) (by decide +kernel), List.mem_of_getElem? (i := 478) (by decide +kernel), List.mem_of_getElem? (i := 479) (by decide +kernel)⟩
theorem lw_p23 : lw_okq (⟨"TwinConsole$MainProcessor", "compare", "(I)I"⟩, 10) := ⟨⟨by decide +kernel, by decide +kernel⟩, List.mem_of_getElem? (i := 225) (by decide +kernel), List.mem_of_getElem? (i := 482) (by decide +kernel), List.mem_of_getElem? (i := 483) (by decide +kernel)⟩
theorem lw_p24 : lw_okq (⟨"TwinConsole$MainProcessor", "setReckonedFlags", "(IZ)V"⟩, 10) := ⟨⟨by decide +kernel, by decide +kernel⟩, List.mem_of_getElem? (i := 225) (by decide +kernel), List.mem_of_getElem? (i := 486) (by decide +kernel), List.mem_of_getElem? (i := 487) (by decide +kernel)⟩
theorem lw_p25 : lw_okq (⟨"TwinConsole$MainProcessor", "add", "(I)I"⟩, 10) := ⟨⟨by decide +kernel, by decide +kernel⟩, List.mem_of_getElem? (i := 225) (by decide +kernel), List.mem_of_getElem? (i := 490) (by decide +kernel), List.mem_of_getElem? (i := 491) (by decide +kernel)⟩
theorem lw_p26 : lw_okq (⟨"TwinConsole$SecondProcessor", "instruct", "()I"⟩, 13) := ⟨⟨by decide +kernel, by decide +kernel⟩, List.mem_of_getElem? (i := 18) (by decide +kernel), List.mem_of_getElem? (i := 499) (by decide +kernel), List.mem_of_getElem? (i := 500) (by decide +kernel)⟩
theorem lw_p27 : lw_okq (⟨"TwinConsole$SecondProcessor", "nextByte", "()I"⟩, 13) := ⟨⟨by decide +kernel, by decide +kernel⟩, List.mem_of_getElem? (i := 18) (by decide +kernel), List.mem_of_getElem? (i := 503) (by decide +kernel), List.mem_of_getElem? (i := 504) (by decide +kernel)⟩
theorem lw_p28 : lw_okq (⟨"TwinConsole$SecondProcessor", "readByte", "(I)I"⟩, 13) := ⟨⟨by decide +kernel, by decide +kernel⟩, List.mem_of_getElem? (i := 18) (by decide +kernel), List.mem_of_getElem? (i := 507) (by decide +kernel), List.mem_of_getElem? (i := 508) (by decide +kernel)⟩
theorem lw_p29 : lw_okq (⟨"TwinConsole$SecondProcessor", "nextAddress", "()I"⟩, 13) := ⟨⟨by decide +kernel, by decide +kernel⟩, List.mem_of_getElem? (i := 18) (by decide +kernel), List.mem_of_getElem? (i := 513) (by decide +kernel), List.mem_of_getElem? (i := 514) (by decide +kernel)⟩
theorem lw_p30 : lw_okq (⟨"TwinConsole$SecondProcessor", "writeByte", "(I)V"⟩, 13) := ⟨⟨by decide +kernel, by decide +kernel⟩, List.mem_of_getElem? (i := 18) (by decide +kernel), List.mem_of_getElem? (i := 517) (by decide +kernel), List.mem_of_getElem? (i := 518) (by decide +kernel)⟩
theorem lw_p31 : lw_okq (⟨"TwinConsole$SecondProcessor", "branch", "(I)I"⟩, 13) := ⟨⟨by decide +kernel, by decide +kernel⟩, List.mem_of_getElem? (i := 18) (by decide +kernel), List.mem_of_getElem? (i := 521) (by decide +kernel), List.mem_of_getElem? (i := 522) (by decide +kernel)⟩
def lw_privs_2 : List (MethodName × Nat) := [(⟨"TwinConsole$MainProcessor", "setMoveFlags", "(I)V"⟩, 10), (⟨"TwinConsole$Bus", "readStatus", "()I"⟩, 8), (⟨"TwinConsole$Bus", "readPad", "()I"⟩, 8), (⟨"TwinConsole$MainProcessor", "controlMachine", "(I)I"⟩, 10), (⟨"TwinConsole$MainProcessor", "branch", "(I)I"⟩, 10), (⟨"TwinConsole$MainProcessor", "conditionHolds", "(I)Z"⟩, 10), (⟨"TwinConsole$MainProcessor", "moveQuick", "(I)I"⟩, 10), (⟨"TwinConsole$MainProcessor", "compare", "(I)I"⟩, 10), (⟨"TwinConsole$MainProcessor", "setReckonedFlags", "(IZ)V"⟩, 10), (⟨"TwinConsole$MainProcessor", "add", "(I)I"⟩, 10), (⟨"TwinConsole$SecondProcessor", "instruct", "()I"⟩, 13), (⟨"TwinConsole$SecondProcessor", "nextByte", "()I"⟩, 13), (⟨"TwinConsole$SecondProcessor", "readByte", "(I)I"⟩, 13), (⟨"TwinConsole$SecondProcessor", "nextAddress", "()I"⟩, 13), (⟨"TwinConsole$SecondProcessor", "writeByte", "(I)V"⟩, 13), (⟨"TwinConsole$SecondProcessor", "branch", "(I)I"⟩, 13)]
theorem lw_r2 : ∀ q ∈ lw_privs_2, lw_okq q := List.forall_mem_cons.mpr ⟨lw_p16, List.forall_mem_cons.mpr ⟨lw_p17, List.forall_mem_cons.mpr ⟨lw_p18, List.forall_mem_cons.mpr ⟨lw_p19, List.forall_mem_cons.mpr ⟨lw_p20, List.forall_mem_cons.mpr ⟨lw_p21, List.forall_mem_cons.mpr ⟨lw_p22, List.forall_mem_cons.mpr ⟨lw_p23, List.forall_mem_cons.mpr ⟨lw_p24, List.forall_mem_cons.mpr ⟨lw_p25, List.forall_mem_cons.mpr ⟨lw_p26, List.forall_mem_cons.mpr ⟨lw_p27, List.forall_mem_cons.mpr ⟨lw_p28, List.forall_mem_cons.mpr ⟨lw_p29, List.forall_mem_cons.mpr ⟨lw_p30, List.forall_mem_cons.mpr ⟨lw_p31, fun _ h => absurd h List.not_mem_nil⟩⟩⟩⟩⟩⟩⟩⟩⟩⟩⟩⟩⟩⟩⟩⟩
theorem lw_p32 : lw_okq (⟨"TwinConsole$SecondProcessor", "count", "(I)I"⟩, 13) := ⟨⟨by decide +kernel, by decide +kernel⟩, List.mem_of_getElem? (i := 18) (by decide +kernel), List.mem_of_getElem? (i := 525) (by decide +kernel), List.mem_of_getElem? (i := 526) (by decide +kernel)⟩
theorem lw_p33 : lw_okq (⟨"TwinConsole$Painter", "drawPlane", "([III)V"⟩, 9) := ⟨⟨by decide +kernel, by decide +kernel⟩, List.mem_of_getElem? (i := 120) (by decide +kernel), List.mem_of_getElem? (i := 537) (by decide +kernel), List.mem_of_getElem? (i := 538) (by decide +kernel)⟩
theorem lw_p34 : lw_okq (⟨"TwinConsole$Painter", "patternDot", "(III)I"⟩, 9) := ⟨⟨by decide +kernel, by decide +kernel⟩, List.mem_of_getElem? (i := 120) (by decide +kernel), List.mem_of_getElem? (i := 542) (by decide +kernel), List.mem_of_getElem? (i := 543) (by decide +kernel)⟩
theorem lw_p35 : lw_okq (⟨"TwinConsole$Painter", "drawSprites", "(I)V"⟩, 9) := ⟨⟨by decide +kernel, by decide +kernel⟩, List.mem_of_getElem? (i := 120) (by decide +kernel), List.mem_of_getElem? (i := 547) (by decide +kernel), List.mem_of_getElem? (i := 548) (by decide +kernel)⟩
theorem lw_p36 : lw_okq (⟨"TwinConsole$Painter", "takeSprites", "(I)I"⟩, 9) := ⟨⟨by decide +kernel, by decide +kernel⟩, List.mem_of_getElem? (i := 120) (by decide +kernel), List.mem_of_getElem? (i := 551) (by decide +kernel), List.mem_of_getElem? (i := 552) (by decide +kernel)⟩
theorem lw_p37 : lw_okq (⟨"TwinConsole$Painter", "isOnLine", "(II)Z"⟩, 9) := ⟨⟨by decide +kernel, by decide +kernel⟩, List.mem_of_getElem? (i := 120) (by decide +kernel), List.mem_of_getElem? (i := 555) (by decide +kernel), List.mem_of_getElem? (i := 556) (by decide +kernel)⟩
theorem lw_p38 : lw_okq (⟨"TwinConsole$Painter", "drawSprite", "(II)V"⟩, 9) := ⟨⟨by decide +kernel, by decide +kernel⟩, List.mem_of_getElem? (i := 120) (by decide +kernel), List.mem_of_getElem? (i := 559) (by decide +kernel), List.mem_of_getElem? (i := 560) (by decide +kernel)⟩
theorem lw_p39 : lw_okq (⟨"TwinConsole$Beam", "countDown", "()V"⟩, 8) := ⟨⟨by decide +kernel, by decide +kernel⟩, List.mem_of_getElem? (i := 157) (by decide +kernel), List.mem_of_getElem? (i := 566) (by decide +kernel), List.mem_of_getElem? (i := 567) (by decide +kernel)⟩
theorem lw_p40 : lw_okq (⟨"TwinConsole$Beam", "beginHiddenLine", "()V"⟩, 8) := ⟨⟨by decide +kernel, by decide +kernel⟩, List.mem_of_getElem? (i := 157) (by decide +kernel), List.mem_of_getElem? (i := 570) (by decide +kernel), List.mem_of_getElem? (i := 571) (by decide +kernel)⟩
theorem lw_p41 : lw_okq (⟨"TwinConsole", "portState", "(I)I"⟩, 7) := ⟨⟨by decide +kernel, by decide +kernel⟩, List.mem_of_getElem? (i := 10) (by decide +kernel), List.mem_of_getElem? (i := 608) (by decide +kernel), List.mem_of_getElem? (i := 609) (by decide +kernel)⟩
theorem lw_p42 : lw_okq (⟨"TwinConsoleModel", "quiet", "(I)I"⟩, 47) := ⟨⟨by decide +kernel, by decide +kernel⟩, List.mem_of_getElem? (i := 616) (by decide +kernel), List.mem_of_getElem? (i := 772) (by decide +kernel), List.mem_of_getElem? (i := 773) (by decide +kernel)⟩
theorem lw_p43 : lw_okq (⟨"TwinConsoleModel", "isOut", "()Z"⟩, 47) := ⟨⟨by decide +kernel, by decide +kernel⟩, List.mem_of_getElem? (i := 616) (by decide +kernel), List.mem_of_getElem? (i := 776) (by decide +kernel), List.mem_of_getElem? (i := 777) (by decide +kernel)⟩
theorem lw_p44 : lw_okq (⟨"TwinConsoleModel", "setFlagWord", "(I)V"⟩, 47) := ⟨⟨by decide +kernel, by decide +kernel⟩, List.mem_of_getElem? (i := 616) (by decide +kernel), List.mem_of_getElem? (i := 780) (by decide +kernel), List.mem_of_getElem? (i := 781) (by decide +kernel)⟩
theorem lw_p45 : lw_okq (⟨"TwinConsoleModel", "mainStep", "()I"⟩, 47) := ⟨⟨by decide +kernel, by decide +kernel⟩, List.mem_of_getElem? (i := 616) (by decide +kernel), List.mem_of_getElem? (i := 792) (by decide +kernel), List.mem_of_getElem? (i := 793) (by decide +kernel)⟩
theorem lw_p46 : lw_okq (⟨"TwinConsoleModel", "moveWord", "()V"⟩, 47) := ⟨⟨by decide +kernel, by decide +kernel⟩, List.mem_of_getElem? (i := 616) (by decide +kernel), List.mem_of_getElem? (i := 796) (by decide +kernel), List.mem_of_getElem? (i := 797) (by decide +kernel)⟩
theorem lw_p47 : lw_okq (⟨"TwinConsoleModel", "put", "(I)V"⟩, 47) := ⟨⟨by decide +kernel, by decide +kernel⟩, List.mem_of_getElem? (i := 616) (by decide +kernel), List.mem_of_getElem? (i := 800) (by decide +kernel), List.mem_of_getElem? (i := 801) (by decide +kernel)⟩
def lw_privs_3 : List (MethodName × Nat) := [(⟨"TwinConsole$SecondProcessor", "count", "(I)I"⟩, 13), (⟨"TwinConsole$Painter", "drawPlane", "([III)V"⟩, 9), (⟨"TwinConsole$Painter", "patternDot", "(III)I"⟩, 9), (⟨"TwinConsole$Painter", "drawSprites", "(I)V"⟩, 9), (⟨"TwinConsole$Painter", "takeSprites", "(I)I"⟩, 9), (⟨"TwinConsole$Painter", "isOnLine", "(II)Z"⟩, 9), (⟨"TwinConsole$Painter", "drawSprite", "(II)V"⟩, 9), (⟨"TwinConsole$Beam", "countDown", "()V"⟩, 8), (⟨"TwinConsole$Beam", "beginHiddenLine", "()V"⟩, 8), (⟨"TwinConsole", "portState", "(I)I"⟩, 7), (⟨"TwinConsoleModel", "quiet", "(I)I"⟩, 47), (⟨"TwinConsoleModel", "isOut", "()Z"⟩, 47), (⟨"TwinConsoleModel", "setFlagWord", "(I)V"⟩, 47), (⟨"TwinConsoleModel", "mainStep", "()I"⟩, 47), (⟨"TwinConsoleModel", "moveWord", "()V"⟩, 47), (⟨"TwinConsoleModel", "put", "(I)V"⟩, 47)]
theorem lw_r3 : ∀ q ∈ lw_privs_3, lw_okq q := List.forall_mem_cons.mpr ⟨lw_p32, List.forall_mem_cons.mpr ⟨lw_p33, List.forall_mem_cons.mpr ⟨lw_p34, List.forall_mem_cons.mpr ⟨lw_p35, List.forall_mem_cons.mpr ⟨lw_p36, List.forall_mem_cons.mpr ⟨lw_p37, List.forall_mem_cons.mpr ⟨lw_p38, List.forall_mem_cons.mpr ⟨lw_p39, List.forall_mem_cons.mpr ⟨lw_p40, List.forall_mem_cons.mpr ⟨lw_p41, List.forall_mem_cons.mpr ⟨lw_p42, List.forall_mem_cons.mpr ⟨lw_p43, List.forall_mem_cons.mpr ⟨lw_p44, List.forall_mem_cons.mpr ⟨lw_p45, List.forall_mem_cons.mpr ⟨lw_p46, List.forall_mem_cons.mpr ⟨lw_p47, fun _ h => absurd h List.not_mem_nil⟩⟩⟩⟩⟩⟩⟩⟩⟩⟩⟩⟩⟩⟩⟩⟩
theorem lw_p48 : lw_okq (⟨"TwinConsoleModel", "grow", "()V"⟩, 47) := ⟨⟨by decide +kernel, by decide +kernel⟩, List.mem_of_getElem? (i := 616) (by decide +kernel), List.mem_of_getElem? (i := 804) (by decide +kernel), List.mem_of_getElem? (i := 805) (by decide +kernel)⟩
theorem lw_p49 : lw_okq (⟨"TwinConsoleModel", "endMove", "()V"⟩, 47) := ⟨⟨by decide +kernel, by decide +kernel⟩, List.mem_of_getElem? (i := 616) (by decide +kernel), List.mem_of_getElem? (i := 809) (by decide +kernel), List.mem_of_getElem? (i := 810) (by decide +kernel)⟩
theorem lw_p50 : lw_okq (⟨"TwinConsoleModel", "interrupt", "(I)I"⟩, 47) := ⟨⟨by decide +kernel, by decide +kernel⟩, List.mem_of_getElem? (i := 616) (by decide +kernel), List.mem_of_getElem? (i := 813) (by decide +kernel), List.mem_of_getElem? (i := 814) (by decide +kernel)⟩
theorem lw_p51 : lw_okq (⟨"TwinConsoleModel", "exception", "(I)V"⟩, 47) := ⟨⟨by decide +kernel, by decide +kernel⟩, List.mem_of_getElem? (i := 616) (by decide +kernel), List.mem_of_getElem? (i := 817) (by decide +kernel), List.mem_of_getElem? (i := 818) (by decide +kernel)⟩
theorem lw_p52 : lw_okq (⟨"TwinConsoleModel", "flagWord", "()I"⟩, 47) := ⟨⟨by decide +kernel, by decide +kernel⟩, List.mem_of_getElem? (i := 616) (by decide +kernel), List.mem_of_getElem? (i := 821) (by decide +kernel), List.mem_of_getElem? (i := 822) (by decide +kernel)⟩
theorem lw_p53 : lw_okq (⟨"TwinConsoleModel", "write", "(II)V"⟩, 47) := ⟨⟨by decide +kernel, by decide +kernel⟩, List.mem_of_getElem? (i := 616) (by decide +kernel), List.mem_of_getElem? (i := 825) (by decide +kernel), List.mem_of_getElem? (i := 826) (by decide +kernel)⟩
theorem lw_p54 : lw_okq (⟨"TwinConsoleModel", "writeData", "(I)V"⟩, 47) := ⟨⟨by decide +kernel, by decide +kernel⟩, List.mem_of_getElem? (i := 616) (by decide +kernel), List.mem_of_getElem? (i := 829) (by decide +kernel), List.mem_of_getElem? (i := 830) (by decide +kernel)⟩
theorem lw_p55 : lw_okq (⟨"TwinConsoleModel", "length", "()I"⟩, 47) := ⟨⟨by decide +kernel, by decide +kernel⟩, List.mem_of_getElem? (i := 616) (by decide +kernel), List.mem_of_getElem? (i := 833) (by decide +kernel), List.mem_of_getElem? (i := 834) (by decide +kernel)⟩
theorem lw_p56 : lw_okq (⟨"TwinConsoleModel", "control", "(I)V"⟩, 47) := ⟨⟨by decide +kernel, by decide +kernel⟩, List.mem_of_getElem? (i := 616) (by decide +kernel), List.mem_of_getElem? (i := 837) (by decide +kernel), List.mem_of_getElem? (i := 838) (by decide +kernel)⟩
theorem lw_p57 : lw_okq (⟨"TwinConsoleModel", "begin", "()V"⟩, 47) := ⟨⟨by decide +kernel, by decide +kernel⟩, List.mem_of_getElem? (i := 616) (by decide +kernel), List.mem_of_getElem? (i := 841) (by decide +kernel), List.mem_of_getElem? (i := 842) (by decide +kernel)⟩
theorem lw_p58 : lw_okq (⟨"TwinConsoleModel", "half", "()I"⟩, 47) := ⟨⟨by decide +kernel, by decide +kernel⟩, List.mem_of_getElem? (i := 616) (by decide +kernel), List.mem_of_getElem? (i := 845) (by decide +kernel), List.mem_of_getElem? (i := 846) (by decide +kernel)⟩
theorem lw_p59 : lw_okq (⟨"TwinConsoleModel", "resetSecond", "(Z)V"⟩, 47) := ⟨⟨by decide +kernel, by decide +kernel⟩, List.mem_of_getElem? (i := 616) (by decide +kernel), List.mem_of_getElem? (i := 850) (by decide +kernel), List.mem_of_getElem? (i := 851) (by decide +kernel)⟩
theorem lw_p60 : lw_okq (⟨"TwinConsoleModel", "instruction", "()I"⟩, 47) := ⟨⟨by decide +kernel, by decide +kernel⟩, List.mem_of_getElem? (i := 616) (by decide +kernel), List.mem_of_getElem? (i := 854) (by decide +kernel), List.mem_of_getElem? (i := 855) (by decide +kernel)⟩
theorem lw_p61 : lw_okq (⟨"TwinConsoleModel", "fetch", "()I"⟩, 47) := ⟨⟨by decide +kernel, by decide +kernel⟩, List.mem_of_getElem? (i := 616) (by decide +kernel), List.mem_of_getElem? (i := 858) (by decide +kernel), List.mem_of_getElem? (i := 859) (by decide +kernel)⟩
theorem lw_p62 : lw_okq (⟨"TwinConsoleModel", "move", "(I)I"⟩, 47) := ⟨⟨by decide +kernel, by decide +kernel⟩, List.mem_of_getElem? (i := 616) (by decide +kernel), List.mem_of_getElem? (i := 862) (by decide +kernel), List.mem_of_getElem? (i := 863) (by decide +kernel)⟩
theorem lw_p63 : lw_okq (⟨"TwinConsoleModel", "setLow", "(II)V"⟩, 47) := ⟨⟨by decide +kernel, by decide +kernel⟩, List.mem_of_getElem? (i := 616) (by decide +kernel), List.mem_of_getElem? (i := 868) (by decide +kernel), List.mem_of_getElem? (i := 869) (by decide +kernel)⟩
def lw_privs_4 : List (MethodName × Nat) := [(⟨"TwinConsoleModel", "grow", "()V"⟩, 47), (⟨"TwinConsoleModel", "endMove", "()V"⟩, 47), (⟨"TwinConsoleModel", "interrupt", "(I)I"⟩, 47), (⟨"TwinConsoleModel", "exception", "(I)V"⟩, 47), (⟨"TwinConsoleModel", "flagWord", "()I"⟩, 47), (⟨"TwinConsoleModel", "write", "(II)V"⟩, 47), (⟨"TwinConsoleModel", "writeData", "(I)V"⟩, 47), (⟨"TwinConsoleModel", "length", "()I"⟩, 47), (⟨"TwinConsoleModel", "control", "(I)V"⟩, 47), (⟨"TwinConsoleModel", "begin", "()V"⟩, 47), (⟨"TwinConsoleModel", "half", "()I"⟩, 47), (⟨"TwinConsoleModel", "resetSecond", "(Z)V"⟩, 47), (⟨"TwinConsoleModel", "instruction", "()I"⟩, 47), (⟨"TwinConsoleModel", "fetch", "()I"⟩, 47), (⟨"TwinConsoleModel", "move", "(I)I"⟩, 47), (⟨"TwinConsoleModel", "setLow", "(II)V"⟩, 47)]
theorem lw_r4 : ∀ q ∈ lw_privs_4, lw_okq q := List.forall_mem_cons.mpr ⟨lw_p48, List.forall_mem_cons.mpr ⟨lw_p49, List.forall_mem_cons.mpr ⟨lw_p50, List.forall_mem_cons.mpr ⟨lw_p51, List.forall_mem_cons.mpr ⟨lw_p52, List.forall_mem_cons.mpr ⟨lw_p53, List.forall_mem_cons.mpr ⟨lw_p54, List.forall_mem_cons.mpr ⟨lw_p55, List.forall_mem_cons.mpr ⟨lw_p56, List.forall_mem_cons.mpr ⟨lw_p57, List.forall_mem_cons.mpr ⟨lw_p58, List.forall_mem_cons.mpr ⟨lw_p59, List.forall_mem_cons.mpr ⟨lw_p60, List.forall_mem_cons.mpr ⟨lw_p61, List.forall_mem_cons.mpr ⟨lw_p62, List.forall_mem_cons.mpr ⟨lw_p63, fun _ h => absurd h List.not_mem_nil⟩⟩⟩⟩⟩⟩⟩⟩⟩⟩⟩⟩⟩⟩⟩⟩
theorem lw_p64 : lw_okq (⟨"TwinConsoleModel", "testWord", "(I)V"⟩, 47) := ⟨⟨by decide +kernel, by decide +kernel⟩, List.mem_of_getElem? (i := 616) (by decide +kernel), List.mem_of_getElem? (i := 873) (by decide +kernel), List.mem_of_getElem? (i := 874) (by decide +kernel)⟩
theorem lw_p65 : lw_okq (⟨"TwinConsoleModel", "read", "(I)I"⟩, 47) := ⟨⟨by decide +kernel, by decide +kernel⟩, List.mem_of_getElem? (i := 616) (by decide +kernel), List.mem_of_getElem? (i := 878) (by decide +kernel), List.mem_of_getElem? (i := 879) (by decide +kernel)⟩
theorem lw_p66 : lw_okq (⟨"TwinConsoleModel", "readData", "()I"⟩, 47) := ⟨⟨by decide +kernel, by decide +kernel⟩, List.mem_of_getElem? (i := 616) (by decide +kernel), List.mem_of_getElem? (i := 882) (by decide +kernel), List.mem_of_getElem? (i := 883) (by decide +kernel)⟩
theorem lw_p67 : lw_okq (⟨"TwinConsoleModel", "vramWord", "(I)I"⟩, 47) := ⟨⟨by decide +kernel, by decide +kernel⟩, List.mem_of_getElem? (i := 616) (by decide +kernel), List.mem_of_getElem? (i := 886) (by decide +kernel), List.mem_of_getElem? (i := 887) (by decide +kernel)⟩
theorem lw_p68 : lw_okq (⟨"TwinConsoleModel", "status", "()I"⟩, 47) := ⟨⟨by decide +kernel, by decide +kernel⟩, List.mem_of_getElem? (i := 616) (by decide +kernel), List.mem_of_getElem? (i := 890) (by decide +kernel), List.mem_of_getElem? (i := 891) (by decide +kernel)⟩
theorem lw_p69 : lw_okq (⟨"TwinConsoleModel", "padWord", "()I"⟩, 47) := ⟨⟨by decide +kernel, by decide +kernel⟩, List.mem_of_getElem? (i := 616) (by decide +kernel), List.mem_of_getElem? (i := 894) (by decide +kernel), List.mem_of_getElem? (i := 895) (by decide +kernel)⟩
theorem lw_p70 : lw_okq (⟨"TwinConsoleModel", "add", "(IIZ)I"⟩, 47) := ⟨⟨by decide +kernel, by decide +kernel⟩, List.mem_of_getElem? (i := 616) (by decide +kernel), List.mem_of_getElem? (i := 899) (by decide +kernel), List.mem_of_getElem? (i := 900) (by decide +kernel)⟩
theorem lw_p71 : lw_okq (⟨"TwinConsoleModel", "control2", "(I)I"⟩, 47) := ⟨⟨by decide +kernel, by decide +kernel⟩, List.mem_of_getElem? (i := 616) (by decide +kernel), List.mem_of_getElem? (i := 904) (by decide +kernel), List.mem_of_getElem? (i := 905) (by decide +kernel)⟩
theorem lw_p72 : lw_okq (⟨"TwinConsoleModel", "branch", "(I)I"⟩, 47) := ⟨⟨by decide +kernel, by decide +kernel⟩, List.mem_of_getElem? (i := 616) (by decide +kernel), List.mem_of_getElem? (i := 908) (by decide +kernel), List.mem_of_getElem? (i := 909) (by decide +kernel)⟩
theorem lw_p73 : lw_okq (⟨"TwinConsoleModel", "holds", "(I)Z"⟩, 47) := ⟨⟨by decide +kernel, by decide +kernel⟩, List.mem_of_getElem? (i := 616) (by decide +kernel), List.mem_of_getElem? (i := 912) (by decide +kernel), List.mem_of_getElem? (i := 913) (by decide +kernel)⟩
theorem lw_p74 : lw_okq (⟨"TwinConsoleModel", "give", "(I)V"⟩, 47) := ⟨⟨by decide +kernel, by decide +kernel⟩, List.mem_of_getElem? (i := 616) (by decide +kernel), List.mem_of_getElem? (i := 916) (by decide +kernel), List.mem_of_getElem? (i := 917) (by decide +kernel)⟩
theorem lw_p75 : lw_okq (⟨"TwinConsoleModel", "second", "()I"⟩, 47) := ⟨⟨by decide +kernel, by decide +kernel⟩, List.mem_of_getElem? (i := 616) (by decide +kernel), List.mem_of_getElem? (i := 920) (by decide +kernel), List.mem_of_getElem? (i := 921) (by decide +kernel)⟩
theorem lw_p76 : lw_okq (⟨"TwinConsoleModel", "next", "()I"⟩, 47) := ⟨⟨by decide +kernel, by decide +kernel⟩, List.mem_of_getElem? (i := 616) (by decide +kernel), List.mem_of_getElem? (i := 924) (by decide +kernel), List.mem_of_getElem? (i := 925) (by decide +kernel)⟩
theorem lw_p77 : lw_okq (⟨"TwinConsoleModel", "load", "(I)I"⟩, 47) := ⟨⟨by decide +kernel, by decide +kernel⟩, List.mem_of_getElem? (i := 616) (by decide +kernel), List.mem_of_getElem? (i := 928) (by decide +kernel), List.mem_of_getElem? (i := 929) (by decide +kernel)⟩
theorem lw_p78 : lw_okq (⟨"TwinConsoleModel", "becomes", "(I)V"⟩, 47) := ⟨⟨by decide +kernel, by decide +kernel⟩, List.mem_of_getElem? (i := 616) (by decide +kernel), List.mem_of_getElem? (i := 932) (by decide +kernel), List.mem_of_getElem? (i := 933) (by decide +kernel)⟩
theorem lw_p79 : lw_okq (⟨"TwinConsoleModel", "pair", "()I"⟩, 47) := ⟨⟨by decide +kernel, by decide +kernel⟩, List.mem_of_getElem? (i := 616) (by decide +kernel), List.mem_of_getElem? (i := 936) (by decide +kernel), List.mem_of_getElem? (i := 937) (by decide +kernel)⟩
def lw_privs_5 : List (MethodName × Nat) := [(⟨"TwinConsoleModel", "testWord", "(I)V"⟩, 47), (⟨"TwinConsoleModel", "read", "(I)I"⟩, 47), (⟨"TwinConsoleModel", "readData", "()I"⟩, 47), (⟨"TwinConsoleModel", "vramWord", "(I)I"⟩, 47), (⟨"TwinConsoleModel", "status", "()I"⟩, 47), (⟨"TwinConsoleModel", "padWord", "()I"⟩, 47), (⟨"TwinConsoleModel", "add", "(IIZ)I"⟩, 47), (⟨"TwinConsoleModel", "control2", "(I)I"⟩, 47), (⟨"TwinConsoleModel", "branch", "(I)I"⟩, 47), (⟨"TwinConsoleModel", "holds", "(I)Z"⟩, 47), (⟨"TwinConsoleModel", "give", "(I)V"⟩, 47), (⟨"TwinConsoleModel", "second", "()I"⟩, 47), (⟨"TwinConsoleModel", "next", "()I"⟩, 47), (⟨"TwinConsoleModel", "load", "(I)I"⟩, 47), (⟨"TwinConsoleModel", "becomes", "(I)V"⟩, 47), (⟨"TwinConsoleModel", "pair", "()I"⟩, 47)]
theorem lw_r5 : ∀ q ∈ lw_privs_5, lw_okq q := List.forall_mem_cons.mpr ⟨lw_p64, List.forall_mem_cons.mpr ⟨lw_p65, List.forall_mem_cons.mpr ⟨lw_p66, List.forall_mem_cons.mpr ⟨lw_p67, List.forall_mem_cons.mpr ⟨lw_p68, List.forall_mem_cons.mpr ⟨lw_p69, List.forall_mem_cons.mpr ⟨lw_p70, List.forall_mem_cons.mpr ⟨lw_p71, List.forall_mem_cons.mpr ⟨lw_p72, List.forall_mem_cons.mpr ⟨lw_p73, List.forall_mem_cons.mpr ⟨lw_p74, List.forall_mem_cons.mpr ⟨lw_p75, List.forall_mem_cons.mpr ⟨lw_p76, List.forall_mem_cons.mpr ⟨lw_p77, List.forall_mem_cons.mpr ⟨lw_p78, List.forall_mem_cons.mpr ⟨lw_p79, fun _ h => absurd h List.not_mem_nil⟩⟩⟩⟩⟩⟩⟩⟩⟩⟩⟩⟩⟩⟩⟩⟩
theorem lw_p80 : lw_okq (⟨"TwinConsoleModel", "goOn", "(I)V"⟩, 47) := ⟨⟨by decide +kernel, by decide +kernel⟩, List.mem_of_getElem? (i := 616) (by decide +kernel), List.mem_of_getElem? (i := 940) (by decide +kernel), List.mem_of_getElem? (i := 941) (by decide +kernel)⟩
theorem lw_p81 : lw_okq (⟨"TwinConsoleModel", "beginLine", "()V"⟩, 47) := ⟨⟨by decide +kernel, by decide +kernel⟩, List.mem_of_getElem? (i := 616) (by decide +kernel), List.mem_of_getElem? (i := 944) (by decide +kernel), List.mem_of_getElem? (i := 945) (by decide +kernel)⟩
theorem lw_p82 : lw_okq (⟨"TwinConsoleModel", "draw", "()V"⟩, 47) := ⟨⟨by decide +kernel, by decide +kernel⟩, List.mem_of_getElem? (i := 616) (by decide +kernel), List.mem_of_getElem? (i := 948) (by decide +kernel), List.mem_of_getElem? (i := 949) (by decide +kernel)⟩
theorem lw_p83 : lw_okq (⟨"TwinConsoleModel", "takeSprites", "()V"⟩, 47) := ⟨⟨by decide +kernel, by decide +kernel⟩, List.mem_of_getElem? (i := 616) (by decide +kernel), List.mem_of_getElem? (i := 952) (by decide +kernel), List.mem_of_getElem? (i := 953) (by decide +kernel)⟩
theorem lw_p84 : lw_okq (⟨"TwinConsoleModel", "spriteWord", "(II)I"⟩, 47) := ⟨⟨by decide +kernel, by decide +kernel⟩, List.mem_of_getElem? (i := 616) (by decide +kernel), List.mem_of_getElem? (i := 956) (by decide +kernel), List.mem_of_getElem? (i := 957) (by decide +kernel)⟩
theorem lw_p85 : lw_okq (⟨"TwinConsoleModel", "spriteAt", "(I)I"⟩, 47) := ⟨⟨by decide +kernel, by decide +kernel⟩, List.mem_of_getElem? (i := 616) (by decide +kernel), List.mem_of_getElem? (i := 960) (by decide +kernel), List.mem_of_getElem? (i := 961) (by decide +kernel)⟩
theorem lw_p86 : lw_okq (⟨"TwinConsoleModel", "spritePixel", "(II)I"⟩, 47) := ⟨⟨by decide +kernel, by decide +kernel⟩, List.mem_of_getElem? (i := 616) (by decide +kernel), List.mem_of_getElem? (i := 964) (by decide +kernel), List.mem_of_getElem? (i := 965) (by decide +kernel)⟩
theorem lw_p87 : lw_okq (⟨"TwinConsoleModel", "patternPixel", "(III)I"⟩, 47) := ⟨⟨by decide +kernel, by decide +kernel⟩, List.mem_of_getElem? (i := 616) (by decide +kernel), List.mem_of_getElem? (i := 968) (by decide +kernel), List.mem_of_getElem? (i := 969) (by decide +kernel)⟩
theorem lw_p88 : lw_okq (⟨"TwinConsoleModel", "plane", "(II)I"⟩, 47) := ⟨⟨by decide +kernel, by decide +kernel⟩, List.mem_of_getElem? (i := 616) (by decide +kernel), List.mem_of_getElem? (i := 972) (by decide +kernel), List.mem_of_getElem? (i := 973) (by decide +kernel)⟩
theorem lw_p89 : lw_okq (⟨"TwinConsoleModel", "planePixel", "(III)I"⟩, 47) := ⟨⟨by decide +kernel, by decide +kernel⟩, List.mem_of_getElem? (i := 616) (by decide +kernel), List.mem_of_getElem? (i := 976) (by decide +kernel), List.mem_of_getElem? (i := 977) (by decide +kernel)⟩
theorem lw_p90 : lw_okq (⟨"TwinConsoleModel", "tellSecond", "()V"⟩, 47) := ⟨⟨by decide +kernel, by decide +kernel⟩, List.mem_of_getElem? (i := 616) (by decide +kernel), List.mem_of_getElem? (i := 980) (by decide +kernel), List.mem_of_getElem? (i := 981) (by decide +kernel)⟩
def lw_privs_6 : List (MethodName × Nat) := [(⟨"TwinConsoleModel", "goOn", "(I)V"⟩, 47), (⟨"TwinConsoleModel", "beginLine", "()V"⟩, 47), (⟨"TwinConsoleModel", "draw", "()V"⟩, 47), (⟨"TwinConsoleModel", "takeSprites", "()V"⟩, 47), (⟨"TwinConsoleModel", "spriteWord", "(II)I"⟩, 47), (⟨"TwinConsoleModel", "spriteAt", "(I)I"⟩, 47), (⟨"TwinConsoleModel", "spritePixel", "(II)I"⟩, 47), (⟨"TwinConsoleModel", "patternPixel", "(III)I"⟩, 47), (⟨"TwinConsoleModel", "plane", "(II)I"⟩, 47), (⟨"TwinConsoleModel", "planePixel", "(III)I"⟩, 47), (⟨"TwinConsoleModel", "tellSecond", "()V"⟩, 47)]
theorem lw_r6 : ∀ q ∈ lw_privs_6, lw_okq q := List.forall_mem_cons.mpr ⟨lw_p80, List.forall_mem_cons.mpr ⟨lw_p81, List.forall_mem_cons.mpr ⟨lw_p82, List.forall_mem_cons.mpr ⟨lw_p83, List.forall_mem_cons.mpr ⟨lw_p84, List.forall_mem_cons.mpr ⟨lw_p85, List.forall_mem_cons.mpr ⟨lw_p86, List.forall_mem_cons.mpr ⟨lw_p87, List.forall_mem_cons.mpr ⟨lw_p88, List.forall_mem_cons.mpr ⟨lw_p89, List.forall_mem_cons.mpr ⟨lw_p90, fun _ h => absurd h List.not_mem_nil⟩⟩⟩⟩⟩⟩⟩⟩⟩⟩⟩
def lw_privs : List (MethodName × Nat) := lw_privs_1 ++ (lw_privs_2 ++ (lw_privs_3 ++ (lw_privs_4 ++ (lw_privs_5 ++ (lw_privs_6)))))
def lw_tbl : List Cond := k2_sels lw_privs ++ tables_1
theorem lw_privs_ok : ∀ q ∈ lw_privs, lw_okq q := by
  show ∀ q ∈ lw_privs_1 ++ (lw_privs_2 ++ (lw_privs_3 ++ (lw_privs_4 ++ (lw_privs_5 ++ (lw_privs_6))))), lw_okq q
  exact List.forall_mem_append.mpr ⟨lw_r1, List.forall_mem_append.mpr ⟨lw_r2, List.forall_mem_append.mpr ⟨lw_r3, List.forall_mem_append.mpr ⟨lw_r4, List.forall_mem_append.mpr ⟨lw_r5, lw_r6⟩⟩⟩⟩⟩
-- ===== end of PART A; then your names; then what follows =====
end
section
def RXT : String := "TwinConsole"
def TXT : u_T := fun k => match k with
  | 0 => ("TwinConsole", "romWords", "[I", true)
  | 1 => ("TwinConsole", "second", "LTwinConsole$SecondProcessor;", true)
  | 2 => ("TwinConsole", "picture", "LTwinConsole$PictureUnit;", true)
  | 3 => ("TwinConsole", "painter", "LTwinConsole$Painter;", true)
  | 4 => ("TwinConsole", "beam", "LTwinConsole$Beam;", true)
  | 5 => ("TwinConsole", "bus", "LTwinConsole$Bus;", true)
  | _ => ("TwinConsole", "main", "LTwinConsole$MainProcessor;", true)
def tyXT : Nat → FieldType := fun k => match k with
  | 0 => .array .int
  | 1 => .object "TwinConsole$SecondProcessor"
  | 2 => .object "TwinConsole$PictureUnit"
  | 3 => .object "TwinConsole$Painter"
  | 4 => .object "TwinConsole$Beam"
  | 5 => .object "TwinConsole$Bus"
  | _ => .object "TwinConsole$MainProcessor"
abbrev wsXT0 : List Cond := u_ws RXT TXT 7
theorem nmXT : ∀ a, a < 7 → ∀ b, b < 7 → a ≠ b → (TXT a).2.1 ≠ (TXT b).2.1 := by decide +kernel
theorem tyXT_ok : ∀ k, k < 7 → parseFieldDescriptor (TXT k).2.2.1 = some (tyXT k) := by decide +kernel
def RXM : String := "TwinConsole$MainProcessor"
def TXM : u_T := fun k => match k with
  | 0 => ("TwinConsole$MainProcessor", "bus", "LTwinConsole$Bus;", true)
  | 1 => ("TwinConsole$MainProcessor", "d", "[I", true)
  | 2 => ("TwinConsole$MainProcessor", "s", "I", false)
  | 3 => ("TwinConsole$MainProcessor", "pc", "I", false)
  | 4 => ("TwinConsole$MainProcessor", "mask", "I", false)
  | 5 => ("TwinConsole$MainProcessor", "negative", "Z", false)
  | 6 => ("TwinConsole$MainProcessor", "zero", "Z", false)
  | 7 => ("TwinConsole$MainProcessor", "overflow", "Z", false)
  | 8 => ("TwinConsole$MainProcessor", "carry", "Z", false)
  | _ => ("TwinConsole$MainProcessor", "waits", "Z", false)
def tyXM : Nat → FieldType := fun k => match k with
  | 0 => .object "TwinConsole$Bus"
  | 1 => .array .int
  | 2 => .int
  | 3 => .int
  | 4 => .int
  | 5 => .boolean
  | 6 => .boolean
  | 7 => .boolean
  | 8 => .boolean
  | _ => .boolean
abbrev wsXM0 : List Cond := u_ws RXM TXM 10
theorem nmXM : ∀ a, a < 10 → ∀ b, b < 10 → a ≠ b → (TXM a).2.1 ≠ (TXM b).2.1 := by decide +kernel
theorem tyXM_ok : ∀ k, k < 10 → parseFieldDescriptor (TXM k).2.2.1 = some (tyXM k) := by decide +kernel
def RXS : String := "TwinConsole$SecondProcessor"
def TXS : u_T := fun k => match k with
  | 0 => ("TwinConsole$SecondProcessor", "romWords", "[I", true)
  | 1 => ("TwinConsole$SecondProcessor", "ram", "[I", true)
  | 2 => ("TwinConsole$SecondProcessor", "a", "I", false)
  | 3 => ("TwinConsole$SecondProcessor", "b", "I", false)
  | 4 => ("TwinConsole$SecondProcessor", "h", "I", false)
  | 5 => ("TwinConsole$SecondProcessor", "pc", "I", false)
  | 6 => ("TwinConsole$SecondProcessor", "zero", "Z", false)
  | 7 => ("TwinConsole$SecondProcessor", "halted", "Z", false)
  | 8 => ("TwinConsole$SecondProcessor", "letsIn", "Z", false)
  | 9 => ("TwinConsole$SecondProcessor", "held", "Z", false)
  | 10 => ("TwinConsole$SecondProcessor", "inReset", "Z", false)
  | 11 => ("TwinConsole$SecondProcessor", "cyclesLeft", "I", false)
  | _ => ("TwinConsole$SecondProcessor", "mainLate", "I", false)
def tyXS : Nat → FieldType := fun k => match k with
  | 0 => .array .int
  | 1 => .array .int
  | 2 => .int
  | 3 => .int
  | 4 => .int
  | 5 => .int
  | 6 => .boolean
  | 7 => .boolean
  | 8 => .boolean
  | 9 => .boolean
  | 10 => .boolean
  | 11 => .int
  | _ => .int
abbrev wsXS0 : List Cond := u_ws RXS TXS 13
theorem nmXS : ∀ a, a < 13 → ∀ b, b < 13 → a ≠ b → (TXS a).2.1 ≠ (TXS b).2.1 := by decide +kernel
theorem tyXS_ok : ∀ k, k < 13 → parseFieldDescriptor (TXS k).2.2.1 = some (tyXS k) := by decide +kernel
def RXP : String := "TwinConsole$PictureUnit"
def TXP : u_T := fun k => match k with
  | 0 => ("TwinConsole$PictureUnit", "vramBytes", "[I", true)
  | 1 => ("TwinConsole$PictureUnit", "cram", "[I", true)
  | 2 => ("TwinConsole$PictureUnit", "vsram", "[I", true)
  | 3 => ("TwinConsole$PictureUnit", "registers", "[I", true)
  | 4 => ("TwinConsole$PictureUnit", "address", "I", false)
  | 5 => ("TwinConsole$PictureUnit", "code", "I", false)
  | 6 => ("TwinConsole$PictureUnit", "wordWaitedFor", "Z", false)
  | 7 => ("TwinConsole$PictureUnit", "fillWaitedFor", "Z", false)
  | 8 => ("TwinConsole$PictureUnit", "wordsLeft", "I", false)
  | _ => ("TwinConsole$PictureUnit", "source", "I", false)
def tyXP : Nat → FieldType := fun k => match k with
  | 0 => .array .int
  | 1 => .array .int
  | 2 => .array .int
  | 3 => .array .int
  | 4 => .int
  | 5 => .int
  | 6 => .boolean
  | 7 => .boolean
  | 8 => .int
  | _ => .int
abbrev wsXP0 : List Cond := u_ws RXP TXP 10
theorem nmXP : ∀ a, a < 10 → ∀ b, b < 10 → a ≠ b → (TXP a).2.1 ≠ (TXP b).2.1 := by decide +kernel
theorem tyXP_ok : ∀ k, k < 10 → parseFieldDescriptor (TXP k).2.2.1 = some (tyXP k) := by decide +kernel
def RXB : String := "TwinConsole$Beam"
def TXB : u_T := fun k => match k with
  | 0 => ("TwinConsole$Beam", "picture", "LTwinConsole$PictureUnit;", true)
  | 1 => ("TwinConsole$Beam", "painter", "LTwinConsole$Painter;", true)
  | 2 => ("TwinConsole$Beam", "second", "LTwinConsole$SecondProcessor;", true)
  | 3 => ("TwinConsole$Beam", "line", "I", false)
  | 4 => ("TwinConsole$Beam", "cycle", "I", false)
  | 5 => ("TwinConsole$Beam", "counter", "I", false)
  | 6 => ("TwinConsole$Beam", "pending4", "Z", false)
  | _ => ("TwinConsole$Beam", "pending6", "Z", false)
def tyXB : Nat → FieldType := fun k => match k with
  | 0 => .object "TwinConsole$PictureUnit"
  | 1 => .object "TwinConsole$Painter"
  | 2 => .object "TwinConsole$SecondProcessor"
  | 3 => .int
  | 4 => .int
  | 5 => .int
  | 6 => .boolean
  | _ => .boolean
abbrev wsXB0 : List Cond := u_ws RXB TXB 8
theorem nmXB : ∀ a, a < 8 → ∀ b, b < 8 → a ≠ b → (TXB a).2.1 ≠ (TXB b).2.1 := by decide +kernel
theorem tyXB_ok : ∀ k, k < 8 → parseFieldDescriptor (TXB k).2.2.1 = some (tyXB k) := by decide +kernel
def RXD : String := "TwinConsole$Painter"
def TXD : u_T := fun k => match k with
  | 0 => ("TwinConsole$Painter", "picture", "LTwinConsole$PictureUnit;", true)
  | 1 => ("TwinConsole$Painter", "registers", "[I", true)
  | 2 => ("TwinConsole$Painter", "screen", "[I", true)
  | 3 => ("TwinConsole$Painter", "dotsOfA", "[I", true)
  | 4 => ("TwinConsole$Painter", "dotsOfB", "[I", true)
  | 5 => ("TwinConsole$Painter", "dotsOfSprites", "[I", true)
  | 6 => ("TwinConsole$Painter", "taken", "[I", true)
  | 7 => ("TwinConsole$Painter", "collided", "Z", false)
  | _ => ("TwinConsole$Painter", "tooMany", "Z", false)
def tyXD : Nat → FieldType := fun k => match k with
  | 0 => .object "TwinConsole$PictureUnit"
  | 1 => .array .int
  | 2 => .array .int
  | 3 => .array .int
  | 4 => .array .int
  | 5 => .array .int
  | 6 => .array .int
  | 7 => .boolean
  | _ => .boolean
abbrev wsXD0 : List Cond := u_ws RXD TXD 9
theorem nmXD : ∀ a, a < 9 → ∀ b, b < 9 → a ≠ b → (TXD a).2.1 ≠ (TXD b).2.1 := by decide +kernel
theorem tyXD_ok : ∀ k, k < 9 → parseFieldDescriptor (TXD k).2.2.1 = some (tyXD k) := by decide +kernel
def RXU : String := "TwinConsole$Bus"
def TXU : u_T := fun k => match k with
  | 0 => ("TwinConsole$Bus", "romWords", "[I", true)
  | 1 => ("TwinConsole$Bus", "ram", "[I", true)
  | 2 => ("TwinConsole$Bus", "second", "LTwinConsole$SecondProcessor;", true)
  | 3 => ("TwinConsole$Bus", "picture", "LTwinConsole$PictureUnit;", true)
  | 4 => ("TwinConsole$Bus", "painter", "LTwinConsole$Painter;", true)
  | 5 => ("TwinConsole$Bus", "beam", "LTwinConsole$Beam;", true)
  | 6 => ("TwinConsole$Bus", "padKeys", "I", false)
  | _ => ("TwinConsole$Bus", "padSelect", "I", false)
def tyXU : Nat → FieldType := fun k => match k with
  | 0 => .array .int
  | 1 => .array .int
  | 2 => .object "TwinConsole$SecondProcessor"
  | 3 => .object "TwinConsole$PictureUnit"
  | 4 => .object "TwinConsole$Painter"
  | 5 => .object "TwinConsole$Beam"
  | 6 => .int
  | _ => .int
abbrev wsXU0 : List Cond := u_ws RXU TXU 8
theorem nmXU : ∀ a, a < 8 → ∀ b, b < 8 → a ≠ b → (TXU a).2.1 ≠ (TXU b).2.1 := by decide +kernel
theorem tyXU_ok : ∀ k, k < 8 → parseFieldDescriptor (TXU k).2.2.1 = some (tyXU k) := by decide +kernel
def RXR : String := "TwinConsoleModel"
def TXR : u_T := fun k => match k with
  | 0 => ("TwinConsoleModel", "rom", "[I", true)
  | 1 => ("TwinConsoleModel", "ram", "[I", true)
  | 2 => ("TwinConsoleModel", "d", "[I", true)
  | 3 => ("TwinConsoleModel", "s", "I", false)
  | 4 => ("TwinConsoleModel", "pc", "I", false)
  | 5 => ("TwinConsoleModel", "mask", "I", false)
  | 6 => ("TwinConsoleModel", "n", "Z", false)
  | 7 => ("TwinConsoleModel", "z", "Z", false)
  | 8 => ("TwinConsoleModel", "v", "Z", false)
  | 9 => ("TwinConsoleModel", "c", "Z", false)
  | 10 => ("TwinConsoleModel", "waits", "Z", false)
  | 11 => ("TwinConsoleModel", "debt", "I", false)
  | 12 => ("TwinConsoleModel", "extra", "I", false)
  | 13 => ("TwinConsoleModel", "pending4", "Z", false)
  | 14 => ("TwinConsoleModel", "pending6", "Z", false)
  | 15 => ("TwinConsoleModel", "padBits", "I", false)
  | 16 => ("TwinConsoleModel", "padHigh", "I", false)
  | 17 => ("TwinConsoleModel", "bytes", "[I", true)
  | 18 => ("TwinConsoleModel", "a", "I", false)
  | 19 => ("TwinConsoleModel", "b", "I", false)
  | 20 => ("TwinConsoleModel", "h", "I", false)
  | 21 => ("TwinConsoleModel", "counter2", "I", false)
  | 22 => ("TwinConsoleModel", "zero", "Z", false)
  | 23 => ("TwinConsoleModel", "halted", "Z", false)
  | 24 => ("TwinConsoleModel", "lets", "Z", false)
  | 25 => ("TwinConsoleModel", "held", "Z", false)
  | 26 => ("TwinConsoleModel", "inReset", "Z", false)
  | 27 => ("TwinConsoleModel", "left", "I", false)
  | 28 => ("TwinConsoleModel", "cost", "I", false)
  | 29 => ("TwinConsoleModel", "vram", "[I", true)
  | 30 => ("TwinConsoleModel", "cram", "[I", true)
  | 31 => ("TwinConsoleModel", "vsram", "[I", true)
  | 32 => ("TwinConsoleModel", "regs", "[I", true)
  | 33 => ("TwinConsoleModel", "address", "I", false)
  | 34 => ("TwinConsoleModel", "code", "I", false)
  | 35 => ("TwinConsoleModel", "waitsWord", "Z", false)
  | 36 => ("TwinConsoleModel", "waitsFill", "Z", false)
  | 37 => ("TwinConsoleModel", "moving", "I", false)
  | 38 => ("TwinConsoleModel", "source", "I", false)
  | 39 => ("TwinConsoleModel", "collided", "Z", false)
  | 40 => ("TwinConsoleModel", "many", "Z", false)
  | 41 => ("TwinConsoleModel", "line", "I", false)
  | 42 => ("TwinConsoleModel", "cycle", "I", false)
  | 43 => ("TwinConsoleModel", "counter", "I", false)
  | 44 => ("TwinConsoleModel", "pixels", "[I", true)
  | 45 => ("TwinConsoleModel", "taken", "I", false)
  | _ => ("TwinConsoleModel", "sprite", "[I", true)
def tyXR : Nat → FieldType := fun k => match k with
  | 0 => .array .int
  | 1 => .array .int
  | 2 => .array .int
  | 3 => .int
  | 4 => .int
  | 5 => .int
  | 6 => .boolean
  | 7 => .boolean
  | 8 => .boolean
  | 9 => .boolean
  | 10 => .boolean
  | 11 => .int
  | 12 => .int
  | 13 => .boolean
  | 14 => .boolean
  | 15 => .int
  | 16 => .int
  | 17 => .array .int
  | 18 => .int
  | 19 => .int
  | 20 => .int
  | 21 => .int
  | 22 => .boolean
  | 23 => .boolean
  | 24 => .boolean
  | 25 => .boolean
  | 26 => .boolean
  | 27 => .int
  | 28 => .int
  | 29 => .array .int
  | 30 => .array .int
  | 31 => .array .int
  | 32 => .array .int
  | 33 => .int
  | 34 => .int
  | 35 => .boolean
  | 36 => .boolean
  | 37 => .int
  | 38 => .int
  | 39 => .boolean
  | 40 => .boolean
  | 41 => .int
  | 42 => .int
  | 43 => .int
  | 44 => .array .int
  | 45 => .int
  | _ => .array .int
abbrev wsXR0 : List Cond := u_ws RXR TXR 47
theorem nmXR : ∀ a, a < 47 → ∀ b, b < 47 → a ≠ b → (TXR a).2.1 ≠ (TXR b).2.1 := by decide +kernel
theorem tyXR_ok : ∀ k, k < 47 → parseFieldDescriptor (TXR k).2.2.1 = some (tyXR k) := by decide +kernel
abbrev cXT_init : ByteArray := prog_1_method_1_code
def yXT_init : MethodName := ⟨RXT, "<init>", "()V"⟩
abbrev cXT_rom : ByteArray := prog_1_method_2_code
def yXT_rom : MethodName := ⟨RXT, "rom", "(II)Z"⟩
abbrev cXT_reset : ByteArray := prog_1_method_3_code
def yXT_reset : MethodName := ⟨RXT, "reset", "()V"⟩
abbrev cXT_pad : ByteArray := prog_1_method_4_code
def yXT_pad : MethodName := ⟨RXT, "pad", "(I)V"⟩
abbrev cXT_step : ByteArray := prog_1_method_5_code
def yXT_step : MethodName := ⟨RXT, "step", "()I"⟩
abbrev cXT_run : ByteArray := prog_1_method_6_code
def yXT_run : MethodName := ⟨RXT, "run", "(I)I"⟩
abbrev cXT_memory : ByteArray := prog_1_method_7_code
def yXT_memory : MethodName := ⟨RXT, "memory", "(I)I"⟩
abbrev cXT_register : ByteArray := prog_1_method_8_code
def yXT_register : MethodName := ⟨RXT, "register", "(I)I"⟩
abbrev cXT_seed : ByteArray := prog_1_method_9_code
def yXT_seed : MethodName := ⟨RXT, "seed", "(II)Z"⟩
abbrev cXT_video : ByteArray := prog_1_method_10_code
def yXT_video : MethodName := ⟨RXT, "video", "(II)I"⟩
abbrev cXT_pixel : ByteArray := prog_1_method_11_code
def yXT_pixel : MethodName := ⟨RXT, "pixel", "(II)I"⟩
abbrev cXT_elementOrNone : ByteArray := prog_1_method_12_code
def yXT_elementOrNone : MethodName := ⟨RXT, "elementOrNone", "([II)I"⟩
abbrev cXT_portState : ByteArray := prog_1_method_13_code
def yXT_portState : MethodName := ⟨RXT, "portState", "(I)I"⟩
abbrev cXT_oneStep : ByteArray := prog_1_method_14_code
def yXT_oneStep : MethodName := ⟨RXT, "oneStep", "()I"⟩
abbrev cXR_init : ByteArray := prog_9_method_1_code
def yXR_init : MethodName := ⟨RXR, "<init>", "()V"⟩
abbrev cXR_isOut : ByteArray := prog_9_method_2_code
def yXR_isOut : MethodName := ⟨RXR, "isOut", "()Z"⟩
abbrev cXR_quiet : ByteArray := prog_9_method_3_code
def yXR_quiet : MethodName := ⟨RXR, "quiet", "(I)I"⟩
abbrev cXR_status : ByteArray := prog_9_method_4_code
def yXR_status : MethodName := ⟨RXR, "status", "()I"⟩
abbrev cXR_padWord : ByteArray := prog_9_method_5_code
def yXR_padWord : MethodName := ⟨RXR, "padWord", "()I"⟩
abbrev cXR_read : ByteArray := prog_9_method_6_code
def yXR_read : MethodName := ⟨RXR, "read", "(I)I"⟩
abbrev cXR_write : ByteArray := prog_9_method_7_code
def yXR_write : MethodName := ⟨RXR, "write", "(II)V"⟩
abbrev cXR_resetSecond : ByteArray := prog_9_method_8_code
def yXR_resetSecond : MethodName := ⟨RXR, "resetSecond", "(Z)V"⟩
abbrev cXR_vramWord : ByteArray := prog_9_method_9_code
def yXR_vramWord : MethodName := ⟨RXR, "vramWord", "(I)I"⟩
abbrev cXR_grow : ByteArray := prog_9_method_10_code
def yXR_grow : MethodName := ⟨RXR, "grow", "()V"⟩
abbrev cXR_readData : ByteArray := prog_9_method_11_code
def yXR_readData : MethodName := ⟨RXR, "readData", "()I"⟩
abbrev cXR_put : ByteArray := prog_9_method_12_code
def yXR_put : MethodName := ⟨RXR, "put", "(I)V"⟩
abbrev cXR_length : ByteArray := prog_9_method_13_code
def yXR_length : MethodName := ⟨RXR, "length", "()I"⟩
abbrev cXR_endMove : ByteArray := prog_9_method_14_code
def yXR_endMove : MethodName := ⟨RXR, "endMove", "()V"⟩
abbrev cXR_writeData : ByteArray := prog_9_method_15_code
def yXR_writeData : MethodName := ⟨RXR, "writeData", "(I)V"⟩
abbrev cXR_half : ByteArray := prog_9_method_16_code
def yXR_half : MethodName := ⟨RXR, "half", "()I"⟩
abbrev cXR_begin : ByteArray := prog_9_method_17_code
def yXR_begin : MethodName := ⟨RXR, "begin", "()V"⟩
abbrev cXR_control : ByteArray := prog_9_method_18_code
def yXR_control : MethodName := ⟨RXR, "control", "(I)V"⟩
abbrev cXR_moveWord : ByteArray := prog_9_method_19_code
def yXR_moveWord : MethodName := ⟨RXR, "moveWord", "()V"⟩
abbrev cXR_flagWord : ByteArray := prog_9_method_20_code
def yXR_flagWord : MethodName := ⟨RXR, "flagWord", "()I"⟩
abbrev cXR_setFlagWord : ByteArray := prog_9_method_21_code
def yXR_setFlagWord : MethodName := ⟨RXR, "setFlagWord", "(I)V"⟩
abbrev cXR_testWord : ByteArray := prog_9_method_22_code
def yXR_testWord : MethodName := ⟨RXR, "testWord", "(I)V"⟩
abbrev cXR_setLow : ByteArray := prog_9_method_23_code
def yXR_setLow : MethodName := ⟨RXR, "setLow", "(II)V"⟩
abbrev cXR_fetch : ByteArray := prog_9_method_24_code
def yXR_fetch : MethodName := ⟨RXR, "fetch", "()I"⟩
abbrev cXR_exception : ByteArray := prog_9_method_25_code
def yXR_exception : MethodName := ⟨RXR, "exception", "(I)V"⟩
abbrev cXR_add : ByteArray := prog_9_method_26_code
def yXR_add : MethodName := ⟨RXR, "add", "(IIZ)I"⟩
abbrev cXR_holds : ByteArray := prog_9_method_27_code
def yXR_holds : MethodName := ⟨RXR, "holds", "(I)Z"⟩
abbrev cXR_branch : ByteArray := prog_9_method_28_code
def yXR_branch : MethodName := ⟨RXR, "branch", "(I)I"⟩
abbrev cXR_move : ByteArray := prog_9_method_29_code
def yXR_move : MethodName := ⟨RXR, "move", "(I)I"⟩
abbrev cXR_control2 : ByteArray := prog_9_method_30_code
def yXR_control2 : MethodName := ⟨RXR, "control2", "(I)I"⟩
abbrev cXR_instruction : ByteArray := prog_9_method_31_code
def yXR_instruction : MethodName := ⟨RXR, "instruction", "()I"⟩
abbrev cXR_interrupt : ByteArray := prog_9_method_32_code
def yXR_interrupt : MethodName := ⟨RXR, "interrupt", "(I)I"⟩
abbrev cXR_mainStep : ByteArray := prog_9_method_33_code
def yXR_mainStep : MethodName := ⟨RXR, "mainStep", "()I"⟩
abbrev cXR_load : ByteArray := prog_9_method_34_code
def yXR_load : MethodName := ⟨RXR, "load", "(I)I"⟩
abbrev cXR_next : ByteArray := prog_9_method_35_code
def yXR_next : MethodName := ⟨RXR, "next", "()I"⟩
abbrev cXR_pair : ByteArray := prog_9_method_36_code
def yXR_pair : MethodName := ⟨RXR, "pair", "()I"⟩
abbrev cXR_becomes : ByteArray := prog_9_method_37_code
def yXR_becomes : MethodName := ⟨RXR, "becomes", "(I)V"⟩
abbrev cXR_second : ByteArray := prog_9_method_38_code
def yXR_second : MethodName := ⟨RXR, "second", "()I"⟩
abbrev cXR_give : ByteArray := prog_9_method_39_code
def yXR_give : MethodName := ⟨RXR, "give", "(I)V"⟩
abbrev cXR_tellSecond : ByteArray := prog_9_method_40_code
def yXR_tellSecond : MethodName := ⟨RXR, "tellSecond", "()V"⟩
abbrev cXR_goOn : ByteArray := prog_9_method_41_code
def yXR_goOn : MethodName := ⟨RXR, "goOn", "(I)V"⟩
abbrev cXR_beginLine : ByteArray := prog_9_method_42_code
def yXR_beginLine : MethodName := ⟨RXR, "beginLine", "()V"⟩
abbrev cXR_patternPixel : ByteArray := prog_9_method_43_code
def yXR_patternPixel : MethodName := ⟨RXR, "patternPixel", "(III)I"⟩
abbrev cXR_planePixel : ByteArray := prog_9_method_44_code
def yXR_planePixel : MethodName := ⟨RXR, "planePixel", "(III)I"⟩
abbrev cXR_plane : ByteArray := prog_9_method_45_code
def yXR_plane : MethodName := ⟨RXR, "plane", "(II)I"⟩
abbrev cXR_spriteWord : ByteArray := prog_9_method_46_code
def yXR_spriteWord : MethodName := ⟨RXR, "spriteWord", "(II)I"⟩
abbrev cXR_takeSprites : ByteArray := prog_9_method_47_code
def yXR_takeSprites : MethodName := ⟨RXR, "takeSprites", "()V"⟩
abbrev cXR_spritePixel : ByteArray := prog_9_method_48_code
def yXR_spritePixel : MethodName := ⟨RXR, "spritePixel", "(II)I"⟩
abbrev cXR_spriteAt : ByteArray := prog_9_method_49_code
def yXR_spriteAt : MethodName := ⟨RXR, "spriteAt", "(I)I"⟩
abbrev cXR_draw : ByteArray := prog_9_method_50_code
def yXR_draw : MethodName := ⟨RXR, "draw", "()V"⟩
abbrev cXR_rom : ByteArray := prog_9_method_51_code
def yXR_rom : MethodName := ⟨RXR, "rom", "(II)Z"⟩
abbrev cXR_reset : ByteArray := prog_9_method_52_code
def yXR_reset : MethodName := ⟨RXR, "reset", "()V"⟩
abbrev cXR_pad : ByteArray := prog_9_method_53_code
def yXR_pad : MethodName := ⟨RXR, "pad", "(I)V"⟩
abbrev cXR_step : ByteArray := prog_9_method_54_code
def yXR_step : MethodName := ⟨RXR, "step", "()I"⟩
abbrev cXR_run : ByteArray := prog_9_method_55_code
def yXR_run : MethodName := ⟨RXR, "run", "(I)I"⟩
abbrev cXR_memory : ByteArray := prog_9_method_56_code
def yXR_memory : MethodName := ⟨RXR, "memory", "(I)I"⟩
abbrev cXR_seed : ByteArray := prog_9_method_57_code
def yXR_seed : MethodName := ⟨RXR, "seed", "(II)Z"⟩
abbrev cXR_register : ByteArray := prog_9_method_58_code
def yXR_register : MethodName := ⟨RXR, "register", "(I)I"⟩
abbrev cXR_video : ByteArray := prog_9_method_59_code
def yXR_video : MethodName := ⟨RXR, "video", "(II)I"⟩
abbrev cXR_pixel : ByteArray := prog_9_method_60_code
def yXR_pixel : MethodName := ⟨RXR, "pixel", "(II)I"⟩
abbrev cXB_init : ByteArray := prog_2_method_1_code
def yXB_init : MethodName := ⟨RXB, "<init>", "(LTwinConsole$PictureUnit;LTwinConsole$Painter;LTwinConsole$SecondProcessor;)V"⟩
abbrev cXB_highestPending : ByteArray := prog_2_method_2_code
def yXB_highestPending : MethodName := ⟨RXB, "highestPending", "(I)I"⟩
abbrev cXB_takePending : ByteArray := prog_2_method_3_code
def yXB_takePending : MethodName := ⟨RXB, "takePending", "(I)V"⟩
abbrev cXB_goOn : ByteArray := prog_2_method_4_code
def yXB_goOn : MethodName := ⟨RXB, "goOn", "(I)V"⟩
abbrev cXB_beginHiddenLine : ByteArray := prog_2_method_5_code
def yXB_beginHiddenLine : MethodName := ⟨RXB, "beginHiddenLine", "()V"⟩
abbrev cXB_countDown : ByteArray := prog_2_method_6_code
def yXB_countDown : MethodName := ⟨RXB, "countDown", "()V"⟩
abbrev cXU_init : ByteArray := prog_3_method_1_code
def yXU_init : MethodName := ⟨RXU, "<init>", "([ILTwinConsole$SecondProcessor;LTwinConsole$PictureUnit;LTwinConsole$Painter;LTwinConsole$Beam;)V"⟩
abbrev cXU_readQuietly : ByteArray := prog_3_method_2_code
def yXU_readQuietly : MethodName := ⟨RXU, "readQuietly", "(I)I"⟩
abbrev cXU_read : ByteArray := prog_3_method_3_code
def yXU_read : MethodName := ⟨RXU, "read", "(I)I"⟩
abbrev cXU_write : ByteArray := prog_3_method_4_code
def yXU_write : MethodName := ⟨RXU, "write", "(II)V"⟩
abbrev cXU_moveWord : ByteArray := prog_3_method_5_code
def yXU_moveWord : MethodName := ⟨RXU, "moveWord", "()V"⟩
abbrev cXU_writeMemory : ByteArray := prog_3_method_6_code
def yXU_writeMemory : MethodName := ⟨RXU, "writeMemory", "(II)V"⟩
abbrev cXU_readStatus : ByteArray := prog_3_method_7_code
def yXU_readStatus : MethodName := ⟨RXU, "readStatus", "()I"⟩
abbrev cXU_readPad : ByteArray := prog_3_method_8_code
def yXU_readPad : MethodName := ⟨RXU, "readPad", "()I"⟩
abbrev cXM_init : ByteArray := prog_4_method_1_code
def yXM_init : MethodName := ⟨RXM, "<init>", "(LTwinConsole$Bus;)V"⟩
abbrev cXM_startAgain : ByteArray := prog_4_method_2_code
def yXM_startAgain : MethodName := ⟨RXM, "startAgain", "()V"⟩
abbrev cXM_maskAndFlags : ByteArray := prog_4_method_3_code
def yXM_maskAndFlags : MethodName := ⟨RXM, "maskAndFlags", "()I"⟩
abbrev cXM_interrupt : ByteArray := prog_4_method_4_code
def yXM_interrupt : MethodName := ⟨RXM, "interrupt", "(I)I"⟩
abbrev cXM_instruct : ByteArray := prog_4_method_5_code
def yXM_instruct : MethodName := ⟨RXM, "instruct", "()I"⟩
abbrev cXM_setMaskAndFlags : ByteArray := prog_4_method_6_code
def yXM_setMaskAndFlags : MethodName := ⟨RXM, "setMaskAndFlags", "(I)V"⟩
abbrev cXM_raise : ByteArray := prog_4_method_7_code
def yXM_raise : MethodName := ⟨RXM, "raise", "(I)V"⟩
abbrev cXM_nextWord : ByteArray := prog_4_method_8_code
def yXM_nextWord : MethodName := ⟨RXM, "nextWord", "()I"⟩
abbrev cXM_setMoveFlags : ByteArray := prog_4_method_9_code
def yXM_setMoveFlags : MethodName := ⟨RXM, "setMoveFlags", "(I)V"⟩
abbrev cXM_setReckonedFlags : ByteArray := prog_4_method_10_code
def yXM_setReckonedFlags : MethodName := ⟨RXM, "setReckonedFlags", "(IZ)V"⟩
abbrev cXM_setLowWord : ByteArray := prog_4_method_11_code
def yXM_setLowWord : MethodName := ⟨RXM, "setLowWord", "(II)V"⟩
abbrev cXM_moveQuick : ByteArray := prog_4_method_12_code
def yXM_moveQuick : MethodName := ⟨RXM, "moveQuick", "(I)I"⟩
abbrev cXM_moveWord : ByteArray := prog_4_method_13_code
def yXM_moveWord : MethodName := ⟨RXM, "moveWord", "(I)I"⟩
abbrev cXM_load : ByteArray := prog_4_method_14_code
def yXM_load : MethodName := ⟨RXM, "load", "(II)V"⟩
abbrev cXM_add : ByteArray := prog_4_method_15_code
def yXM_add : MethodName := ⟨RXM, "add", "(I)I"⟩
abbrev cXM_compare : ByteArray := prog_4_method_16_code
def yXM_compare : MethodName := ⟨RXM, "compare", "(I)I"⟩
abbrev cXM_branch : ByteArray := prog_4_method_17_code
def yXM_branch : MethodName := ⟨RXM, "branch", "(I)I"⟩
abbrev cXM_conditionHolds : ByteArray := prog_4_method_18_code
def yXM_conditionHolds : MethodName := ⟨RXM, "conditionHolds", "(I)Z"⟩
abbrev cXM_controlMachine : ByteArray := prog_4_method_19_code
def yXM_controlMachine : MethodName := ⟨RXM, "controlMachine", "(I)I"⟩
abbrev cXD_init : ByteArray := prog_5_method_1_code
def yXD_init : MethodName := ⟨RXD, "<init>", "(LTwinConsole$PictureUnit;)V"⟩
abbrev cXD_draw : ByteArray := prog_5_method_2_code
def yXD_draw : MethodName := ⟨RXD, "draw", "(I)V"⟩
abbrev cXD_foremost : ByteArray := prog_5_method_3_code
def yXD_foremost : MethodName := ⟨RXD, "foremost", "(III)I"⟩
abbrev cXD_drawPlane : ByteArray := prog_5_method_4_code
def yXD_drawPlane : MethodName := ⟨RXD, "drawPlane", "([III)V"⟩
abbrev cXD_patternDot : ByteArray := prog_5_method_5_code
def yXD_patternDot : MethodName := ⟨RXD, "patternDot", "(III)I"⟩
abbrev cXD_drawSprites : ByteArray := prog_5_method_6_code
def yXD_drawSprites : MethodName := ⟨RXD, "drawSprites", "(I)V"⟩
abbrev cXD_takeSprites : ByteArray := prog_5_method_7_code
def yXD_takeSprites : MethodName := ⟨RXD, "takeSprites", "(I)I"⟩
abbrev cXD_isOnLine : ByteArray := prog_5_method_8_code
def yXD_isOnLine : MethodName := ⟨RXD, "isOnLine", "(II)Z"⟩
abbrev cXD_drawSprite : ByteArray := prog_5_method_9_code
def yXD_drawSprite : MethodName := ⟨RXD, "drawSprite", "(II)V"⟩
abbrev cXP_init : ByteArray := prog_6_method_1_code
def yXP_init : MethodName := ⟨RXP, "<init>", "()V"⟩
abbrev cXP_vramWord : ByteArray := prog_6_method_2_code
def yXP_vramWord : MethodName := ⟨RXP, "vramWord", "(I)I"⟩
abbrev cXP_movesFromMemory : ByteArray := prog_6_method_3_code
def yXP_movesFromMemory : MethodName := ⟨RXP, "movesFromMemory", "()Z"⟩
abbrev cXP_writeControl : ByteArray := prog_6_method_4_code
def yXP_writeControl : MethodName := ⟨RXP, "writeControl", "(I)V"⟩
abbrev cXP_writeData : ByteArray := prog_6_method_5_code
def yXP_writeData : MethodName := ⟨RXP, "writeData", "(I)V"⟩
abbrev cXP_readData : ByteArray := prog_6_method_6_code
def yXP_readData : MethodName := ⟨RXP, "readData", "()I"⟩
abbrev cXP_takeMovedWord : ByteArray := prog_6_method_7_code
def yXP_takeMovedWord : MethodName := ⟨RXP, "takeMovedWord", "(I)V"⟩
abbrev cXP_takeFirstWord : ByteArray := prog_6_method_8_code
def yXP_takeFirstWord : MethodName := ⟨RXP, "takeFirstWord", "(I)V"⟩
abbrev cXP_halfSource : ByteArray := prog_6_method_9_code
def yXP_halfSource : MethodName := ⟨RXP, "halfSource", "()I"⟩
abbrev cXP_moveLength : ByteArray := prog_6_method_10_code
def yXP_moveLength : MethodName := ⟨RXP, "moveLength", "()I"⟩
abbrev cXP_endMove : ByteArray := prog_6_method_11_code
def yXP_endMove : MethodName := ⟨RXP, "endMove", "()V"⟩
abbrev cXP_growAddress : ByteArray := prog_6_method_12_code
def yXP_growAddress : MethodName := ⟨RXP, "growAddress", "()V"⟩
abbrev cXP_storeWord : ByteArray := prog_6_method_13_code
def yXP_storeWord : MethodName := ⟨RXP, "storeWord", "(I)V"⟩
abbrev cXP_fill : ByteArray := prog_6_method_14_code
def yXP_fill : MethodName := ⟨RXP, "fill", "(II)V"⟩
abbrev cXP_copy : ByteArray := prog_6_method_15_code
def yXP_copy : MethodName := ⟨RXP, "copy", "(I)V"⟩
abbrev cXS_init : ByteArray := prog_7_method_1_code
def yXS_init : MethodName := ⟨RXS, "<init>", "([I)V"⟩
abbrev cXS_stands : ByteArray := prog_7_method_2_code
def yXS_stands : MethodName := ⟨RXS, "stands", "()Z"⟩
abbrev cXS_stateBits : ByteArray := prog_7_method_3_code
def yXS_stateBits : MethodName := ⟨RXS, "stateBits", "()I"⟩
abbrev cXS_takeMainLate : ByteArray := prog_7_method_4_code
def yXS_takeMainLate : MethodName := ⟨RXS, "takeMainLate", "()I"⟩
abbrev cXS_setReset : ByteArray := prog_7_method_5_code
def yXS_setReset : MethodName := ⟨RXS, "setReset", "(Z)V"⟩
abbrev cXS_tellLine8 : ByteArray := prog_7_method_6_code
def yXS_tellLine8 : MethodName := ⟨RXS, "tellLine8", "()V"⟩
abbrev cXS_give : ByteArray := prog_7_method_7_code
def yXS_give : MethodName := ⟨RXS, "give", "(I)V"⟩
abbrev cXS_instruct : ByteArray := prog_7_method_8_code
def yXS_instruct : MethodName := ⟨RXS, "instruct", "()I"⟩
abbrev cXS_count : ByteArray := prog_7_method_9_code
def yXS_count : MethodName := ⟨RXS, "count", "(I)I"⟩
abbrev cXS_branch : ByteArray := prog_7_method_10_code
def yXS_branch : MethodName := ⟨RXS, "branch", "(I)I"⟩
abbrev cXS_nextByte : ByteArray := prog_7_method_11_code
def yXS_nextByte : MethodName := ⟨RXS, "nextByte", "()I"⟩
abbrev cXS_nextAddress : ByteArray := prog_7_method_12_code
def yXS_nextAddress : MethodName := ⟨RXS, "nextAddress", "()I"⟩
abbrev cXS_readByte : ByteArray := prog_7_method_13_code
def yXS_readByte : MethodName := ⟨RXS, "readByte", "(I)I"⟩
abbrev cXS_writeByte : ByteArray := prog_7_method_14_code
def yXS_writeByte : MethodName := ⟨RXS, "writeByte", "(I)V"⟩
abbrev vwCl : List vw_C := [(RXT, TXT, 7), (RXM, TXM, 10), (RXS, TXS, 13), (RXP, TXP, 10), (RXB, TXB, 8), (RXD, TXD, 9), (RXU, TXU, 8), (RXR, TXR, 47)]
end
section
/-! the state of a side: numbers by their places, arrays by theirs -/
abbrev tc_S : Type := (Nat → Int32) × (Nat → Nat → Int32)
def tc_gf (σ : tc_S) (k : Nat) : Int32 := σ.1 k
def tc_sf (σ : tc_S) (k : Nat) (v : Int32) : tc_S := (upd σ.1 k v, σ.2)
def tc_ga (σ : tc_S) (j : Nat) (i : Int32) : Int32 := σ.2 j i.toNatClampNeg
def tc_sa (σ : tc_S) (j : Nat) (i v : Int32) : tc_S := (σ.1, va_up σ.2 j (upd (σ.2 j) i.toNatClampNeg v))
/-- a place in an array of n places, else nothing -/
def tc_gd {α : Type} (i : Int32) (n : Nat) (x : Option α) : Option α := if (i < 0 ∨ n ≤ i.toNatClampNeg) then none else x
/-- a number that is a boolean, else nothing -/
def tc_gb {α : Type} (v : Int32) (x : Option α) : Option α := if (v = 0 ∨ v = 1) then x else none
theorem tc_gd_some {α : Type} {i : Int32} {n : Nat} {x : Option α} {r : α} (h : tc_gd i n x = some r) : vp_in i n ∧ x = some r := by
  unfold tc_gd at h
  by_cases hc : (i < 0 ∨ n ≤ i.toNatClampNeg)
  · rw [if_pos hc] at h; cases h
  · rw [if_neg hc] at h; exact ⟨hc, h⟩
theorem tc_gb_some {α : Type} {v : Int32} {x : Option α} {r : α} (h : tc_gb v x = some r) : (narrow .boolean (.int v) = .int v ∧ fits .boolean (.int v) = true) ∧ x = some r := by
  unfold tc_gb at h
  by_cases hc : (v = 0 ∨ v = 1)
  · rw [if_pos hc] at h
    refine ⟨?_, h⟩
    rcases hc with rfl | rfl <;> exact ⟨by decide, by decide⟩
  · rw [if_neg hc] at h; cases h
theorem tc_ip {α : Type} {c : Prop} [Decidable c] {x y z : α} (hc : c) (h : (if c then x else y) = z) : x = z := by rw [if_pos hc] at h; exact h
theorem tc_in {α : Type} {c : Prop} [Decidable c] {x y z : α} (hc : ¬ c) (h : (if c then x else y) = z) : y = z := by rw [if_neg hc] at h; exact h
theorem tc_bd_some {α β : Type} {x : Option α} {f : α → Option β} {b : β} (h : x.bind f = some b) : ∃ a, x = some a ∧ f a = some b := Option.bind_eq_some_iff.mp h
/-! the words of the tables that stay true -/
def tc_nest : Cond → Bool
  | .fieldLinkNest .. => true
  | .methodLinkNest .. => true
  | _ => false
def tc_ok (w : Cond) : Bool := w.onTables && (w.keeps || tc_nest w)
def tc_wA : List Cond := lw_tbl.filter tc_ok
theorem tc_mem {w : Cond} {i : Nat} (h : tables_1[i]? = some w) (ho : tc_ok w = true) : w ∈ tc_wA := List.mem_filter.mpr ⟨List.mem_append_right _ (List.mem_of_getElem? h), ho⟩
theorem tc_mem_s {w : Cond} (h : w ∈ k2_sels lw_privs) (ho : tc_ok w = true) : w ∈ tc_wA := List.mem_filter.mpr ⟨List.mem_append_left _ h, ho⟩
theorem tc_tab {w : Cond} (h : w ∈ tc_wA) : w.onTables = true := by
  have := (List.mem_filter.mp h).2
  simp only [tc_ok, Bool.and_eq_true] at this
  exact this.1
theorem tc_warm {w : Cond} (h : w ∈ tc_wA) {s U : State} (hW : s.WarmedH U.vm) (hs : va_Nw w s) : va_Nw w U := by
  have ho := (List.mem_filter.mp h).2
  simp only [tc_ok, Bool.and_eq_true, Bool.or_eq_true] at ho
  rcases ho.2 with hk | hk
  · exact word_at (args := #[]) (a' := #[]) hW (Or.inl (by rw [ho.1, hk]; rfl)) hs
  · cases w <;> first | exact va_Nw.warmF hW hs | exact va_Nw.warmM hW hs | (exact absurd hk (by simp [tc_nest]))
def tc_K (D : va_G) (cA : ClassId) (U : State) : Prop := va_K D vwCl [(cA, .int)] U ∧ ∀ w ∈ tc_wA, va_Nw w U
theorem tc_K_warm {D : va_G} {cA : ClassId} {s U : State} (hW : s.WarmedH U.vm) (h : tc_K D cA s) : tc_K D cA U := ⟨va_K.moved hW.alike h.1, fun w hw => tc_warm hw hW (h.2 w hw)⟩
theorem tc_K_calling {D : va_G} {cA : ClassId} {U : State} {g : JFrame} {mk : MethodId} {a : Array Value} (h : tc_K D cA U) : tc_K D cA (U.calling g mk a) := ⟨va_K.moved (u := U) (U := U.calling g mk a) (Vm.Alike.refl U.vm) h.1, fun w hw => va_Nw.same (u := U) (U := U.calling g mk a) (tc_tab hw) rfl (h.2 w hw)⟩
theorem tc_use {args : Array Value} {s : State} {w : Cond} (hN : ∀ w ∈ tc_wA, va_Nw w s) (h : w ∈ tc_wA) : w.before args s = true := va_Nw.use (tc_tab h) (hN w h)
theorem tc_ht {args : Array Value} {s : State} {L : List Cond} (hN : ∀ w ∈ tc_wA, va_Nw w s) (h : ∀ w ∈ L, w ∈ tc_wA) : ∀ w ∈ L, w.before args s = true := fun w hw => tc_use hN (h w hw)
/-- what stands fast while a method runs -/
def tc_C (p : Program) (s : State) (m : MethodId) (args : Array Value) (meth : Method) (c : Code) (own : String) (cc : ByteArray) (nL : Nat) (ret : Option FieldType) (D : va_G) (cA : ClassId) : Prop :=
  p.tables.exec = Jvm.exec ∧ c.code = cc ∧ c.maxLocals = nL ∧ s.vm.findClass own = some m.cls ∧ tc_K D cA s ∧ meth.sig.returnType = ret ∧ meth.locks = false
def tc_R (d : Nat) : Room := { frames := d, cells := 0, slots := 0, locals := 64 * d }
abbrev tc_Pc (D : va_G) (cA : ClassId) (ws : va_W) (av : List Value) : Array Value → State → Prop := va_Pc av (fun U => va_P D vwCl ws U.heap ∧ tc_K D cA U)
abbrev tc_Qi (D : va_G) (ws : va_W) (A : Nat → Prop) (r : Int32) : Array Value → State → Outcome → State → Prop := va_Qi (S := Unit) (fun r' _ => r' = r) (fun _ t => va_P D vwCl ws t.heap) A
abbrev tc_Qv (D : va_G) (ws : va_W) (A : Nat → Prop) : Array Value → State → Outcome → State → Prop := va_Qv (S := Unit) (fun _ => True) (fun _ t => va_P D vwCl ws t.heap) A
theorem tc_met {l : Launch} {y : MethodName} {cc : ByteArray} {maxL : Nat} {ret : Option FieldType} {d : Nat} {D : va_G} {cA : ClassId} {ws : va_W} {av : List Value} {Qc : Array Value → State → Outcome → State → Prop} {A : Nat → Prop} (hy : plainName y.cls = true) (hlen : (lg_sl av).length ≤ maxL)
    (body : ∀ (p : Program) (e : Env) (s : State) (m : MethodId) (below : List Frame) (meth : Method) (c : Code), tc_C p s m av.toArray meth c y.cls cc maxL ret D cA → va_P D vwCl ws s.heap → ∀ ls : Array Slot, lv_has ls maxL (lv_args 0 av) → W p l e (tc_R d) s m av.toArray below meth c s.heap [] 0 0 (MQ below Qc av.toArray s 0 0 A) (F0 m 0 ls [])) :
    Met l y [.code y cc maxL ret] (tc_R d) (tc_Pc D cA ws av) Qc 0 0 A := by
  refine Met.ofW (cc := cc) (maxL := maxL) (ret := ret) hy rfl ?_
  intro p e s m args below meth c s₁ B hml hv
  obtain ⟨rfl, hP, hK⟩ := hv
  rw [lg_entry_eq]
  exact body p e s m below meth c ⟨B.exec, B.bytes, hml, findClass_of_methodNamed B.named, hK, B.returns, B.notSynchronized⟩ hP _ (lv_entry av hlen)
/-! calls -/
def tc_V (own : String) (index : Nat) (y : MethodName) (bytes : ByteArray) (maxL : Nat) (ret : Option FieldType) (n : Nat) : Prop :=
  Cond.methodLink own index y ∈ tc_wA ∧ Cond.instanceMethod y ∈ tc_wA ∧ Cond.selects y.cls y y ∈ tc_wA ∧ Cond.initialized y.cls ∈ tc_wA ∧ Cond.code y bytes maxL ret ∈ tc_wA ∧ (y.cls ≠ "java/lang/invoke/MethodHandle" ∧ y.cls ≠ "java/lang/invoke/VarHandle" ∧ (parseMethodDescriptor y.desc).map (fun d => d.parameters.length) = some n)
def tc_St (own : String) (index : Nat) (y : MethodName) (bytes : ByteArray) (maxL : Nat) (ret : Option FieldType) (n : Nat) : Prop :=
  Cond.methodLink own index y ∈ tc_wA ∧ Cond.static y ∈ tc_wA ∧ Cond.initialized y.cls ∈ tc_wA ∧ Cond.code y bytes maxL ret ∈ tc_wA ∧ (y.cls ≠ "java/lang/invoke/MethodHandle" ∧ y.cls ≠ "java/lang/invoke/VarHandle" ∧ (parseMethodDescriptor y.desc).map (fun d => d.parameters.length) = some n)
section TCC
variable {p : Program} {l : Launch} {e : Env} {s : State} {m : MethodId} {args : Array Value} {below : List Frame} {meth : Method} {c : Code} {H : Heap} {locs : List Loc} {Q : State → Prop} {own : String} {cc : ByteArray} {nL : Nat} {ret rc : Option FieldType} {D : va_G} {cA : ClassId} {A : Nat → Prop} {ws ws' : va_W} {y : MethodName} {bytes : ByteArray} {maxL d d' index pc n : Nat} {b : Nat} {As rest st0 : List Value} {ls : Array Slot} {lv : List (Nat × Value)} {r : Int32}
theorem tc_cb (hN : ∀ w ∈ tc_wA, va_Nw w s) (hl : Cond.methodLink own index y ∈ tc_wA) (hi : Cond.initialized y.cls ∈ tc_wA) (hc : Cond.code y bytes maxL rc ∈ tc_wA) (hd : y.cls ≠ "java/lang/invoke/MethodHandle" ∧ y.cls ≠ "java/lang/invoke/VarHandle" ∧ (parseMethodDescriptor y.desc).map (fun d => d.parameters.length) = some n) (h1 : d' < d) (h2 : maxL ≤ 45) :
    CallB (tc_R d) s args own index y bytes maxL rc [.code y bytes maxL rc] (tc_R d') 0 0 n := by
  refine ⟨rfl, rfl, h1, ?_, fun w hw a' U hW => ?_, List.mem_singleton.mpr rfl, tc_use hN hc, tc_use hN hi, ⟨hd.1, hd.2.1⟩, fun sig h => ?_, tc_use hN hl⟩
  · show 8 + (maxL + 11) + 64 * d' ≤ 64 * d
    omega
  · rw [List.mem_singleton.mp hw]
    exact word_at (args := args) hW (Or.inl rfl) (tc_use hN hc)
  · have h3 := hd.2.2
    rw [h] at h3
    exact (Option.some.inj h3).symm
theorem tc_blind {av : List Value} : FrameBlind (tc_Pc D cA ws av) := fun _ _ _ _ q => ⟨q.1, q.2.1, tc_K_calling q.2.2⟩
theorem tc_cVi (C : tc_C p s m args meth c own cc nL ret D cA) (hM : Met l y [.code y bytes maxL rc] (tc_R d') (tc_Pc D cA ws (.ref b :: As)) (tc_Qi D ws' A r) 0 0 A) (hv : tc_V own index y bytes maxL rc As.length) (h1 : d' < d) (h2 : maxL ≤ 45) (hP : va_P D vwCl ws H) (hS : va_S A s.heap H locs) (hl : lv_has ls nL lv)
    (q0 : Nat) {ci N : Nat} {T : u_T} {fs : List Value} (he : ws[q0]? = some (b, .inr (ci, fs))) (hc : vwCl[ci]? = some (y.cls, T, N)) (hr : (rest.map fun v => v.category).sum ≤ 8) (hdg : decode cc pc = .ok (.invokevirtual index, 3)) (hst : st0 = As.reverse ++ .ref b :: rest)
    (kk : ∀ (H1 : Heap) (locs1 : List Loc), va_P D vwCl ws' H1 → va_S A s.heap H1 locs1 → W p l e (tc_R d) s m args below meth c H1 locs1 0 0 Q (F0 m (pc + 3) ls (.int r :: rest))) : W p l e (tc_R d) s m args below meth c H locs 0 0 Q (F0 m pc ls st0) := by
  obtain ⟨hx, hb, hml, hown, ⟨hK, hN⟩, hr0, hlk⟩ := C
  obtain ⟨v1, v2, v3, v4, v5, v6⟩ := hv
  refine va_calli (va_runV (Ts := []) (As := As) (rest := rest) ⟨hx, hb, hml, hown, fun _ h => absurd h List.not_mem_nil⟩ hM ⟨tc_cb hN v1 v4 v5 v6 h1 h2, tc_use hN v2, tc_use hN v3⟩ ⟨tc_blind, va_recv hK hP hc he, fun U hU hW => ⟨rfl, by rw [hU]; exact hP, tc_K_warm hW ⟨hK, hN⟩⟩⟩ rfl rfl hl.1 hst (lv_room hr) hdg ⟨Nat.le_refl _, Nat.le_refl _⟩) hS (fun _ _ h => h) (fun _ h => h) (fun r' u t H1 locs1 ht _ hp hB _ _ hS1 => ?_)
  cases hp
  exact kk H1 locs1 (ht ▸ hB) hS1
theorem tc_cVv (C : tc_C p s m args meth c own cc nL ret D cA) (hM : Met l y [.code y bytes maxL rc] (tc_R d') (tc_Pc D cA ws (.ref b :: As)) (tc_Qv D ws' A) 0 0 A) (hv : tc_V own index y bytes maxL rc As.length) (h1 : d' < d) (h2 : maxL ≤ 45) (hP : va_P D vwCl ws H) (hS : va_S A s.heap H locs) (hl : lv_has ls nL lv)
    (q0 : Nat) {ci N : Nat} {T : u_T} {fs : List Value} (he : ws[q0]? = some (b, .inr (ci, fs))) (hc : vwCl[ci]? = some (y.cls, T, N)) (hr : (rest.map fun v => v.category).sum ≤ 8) (hdg : decode cc pc = .ok (.invokevirtual index, 3)) (hst : st0 = As.reverse ++ .ref b :: rest)
    (kk : ∀ (H1 : Heap) (locs1 : List Loc), va_P D vwCl ws' H1 → va_S A s.heap H1 locs1 → W p l e (tc_R d) s m args below meth c H1 locs1 0 0 Q (F0 m (pc + 3) ls rest)) : W p l e (tc_R d) s m args below meth c H locs 0 0 Q (F0 m pc ls st0) := by
  obtain ⟨hx, hb, hml, hown, ⟨hK, hN⟩, hr0, hlk⟩ := C
  obtain ⟨v1, v2, v3, v4, v5, v6⟩ := hv
  refine va_callv (va_runV (Ts := []) (As := As) (rest := rest) ⟨hx, hb, hml, hown, fun _ h => absurd h List.not_mem_nil⟩ hM ⟨tc_cb hN v1 v4 v5 v6 h1 h2, tc_use hN v2, tc_use hN v3⟩ ⟨tc_blind, va_recv hK hP hc he, fun U hU hW => ⟨rfl, by rw [hU]; exact hP, tc_K_warm hW ⟨hK, hN⟩⟩⟩ rfl rfl hl.1 hst (lv_room hr) hdg ⟨Nat.le_refl _, Nat.le_refl _⟩) hS (fun _ _ h => h) (fun _ h => h) (fun u t H1 locs1 ht _ hp hB _ _ hS1 => ?_)
  exact kk H1 locs1 (ht ▸ hB) hS1
theorem tc_cSi (C : tc_C p s m args meth c own cc nL ret D cA) (hM : Met l y [.code y bytes maxL rc] (tc_R d') (tc_Pc D cA ws As) (tc_Qi D ws' A r) 0 0 A) (hv : tc_St own index y bytes maxL rc As.length) (h1 : d' < d) (h2 : maxL ≤ 45) (hP : va_P D vwCl ws H) (hS : va_S A s.heap H locs) (hl : lv_has ls nL lv)
    (hr : (rest.map fun v => v.category).sum ≤ 8) (hdg : decode cc pc = .ok (.invokestatic index, 3)) (hst : st0 = As.reverse ++ rest)
    (kk : ∀ (H1 : Heap) (locs1 : List Loc), va_P D vwCl ws' H1 → va_S A s.heap H1 locs1 → W p l e (tc_R d) s m args below meth c H1 locs1 0 0 Q (F0 m (pc + 3) ls (.int r :: rest))) : W p l e (tc_R d) s m args below meth c H locs 0 0 Q (F0 m pc ls st0) := by
  obtain ⟨hx, hb, hml, hown, ⟨hK, hN⟩, hr0, hlk⟩ := C
  obtain ⟨v1, v2, v4, v5, v6⟩ := hv
  refine va_calli (va_runS (Ts := []) (As := As) (rest := rest) ⟨hx, hb, hml, hown, fun _ h => absurd h List.not_mem_nil⟩ hM ⟨tc_cb hN v1 v4 v5 v6 h1 h2, tc_use hN v2⟩ ⟨tc_blind, fun U hU hW => ⟨rfl, by rw [hU]; exact hP, tc_K_warm hW ⟨hK, hN⟩⟩⟩ rfl rfl hl.1 hst (lv_room hr) hdg ⟨Nat.le_refl _, Nat.le_refl _⟩) hS (fun _ _ h => h) (fun _ h => h) (fun r' u t H1 locs1 ht _ hp hB _ _ hS1 => ?_)
  cases hp
  exact kk H1 locs1 (ht ▸ hB) hS1
end TCC
end
section
theorem dXB_init_0 : decode cXB_init 0 = .ok (.aload_n 0, 1) := by decide +kernel
theorem dXB_init_1 : decode cXB_init 1 = .ok (.invokespecial 1, 3) := by decide +kernel
theorem dXB_init_4 : decode cXB_init 4 = .ok (.aload_n 0, 1) := by decide +kernel
theorem dXB_init_5 : decode cXB_init 5 = .ok (.aload_n 1, 1) := by decide +kernel
theorem dXB_init_6 : decode cXB_init 6 = .ok (.putfield 7, 3) := by decide +kernel
theorem dXB_init_9 : decode cXB_init 9 = .ok (.aload_n 0, 1) := by decide +kernel
theorem dXB_init_10 : decode cXB_init 10 = .ok (.aload_n 2, 1) := by decide +kernel
theorem dXB_init_11 : decode cXB_init 11 = .ok (.putfield 13, 3) := by decide +kernel
theorem dXB_init_14 : decode cXB_init 14 = .ok (.aload_n 0, 1) := by decide +kernel
theorem dXB_init_15 : decode cXB_init 15 = .ok (.aload_n 3, 1) := by decide +kernel
theorem dXB_init_16 : decode cXB_init 16 = .ok (.putfield 17, 3) := by decide +kernel
theorem dXB_init_19 : decode cXB_init 19 = .ok (.return_, 1) := by decide +kernel
theorem dXB_highestPending_0 : decode cXB_highestPending 0 = .ok (.aload_n 0, 1) := by decide +kernel
theorem dXB_highestPending_1 : decode cXB_highestPending 1 = .ok (.getfield 21, 3) := by decide +kernel
theorem dXB_highestPending_4 : decode cXB_highestPending 4 = .ok (.ifCond .eq 12, 3) := by decide +kernel
theorem dXB_highestPending_7 : decode cXB_highestPending 7 = .ok (.iload_n 1, 1) := by decide +kernel
theorem dXB_highestPending_8 : decode cXB_highestPending 8 = .ok (.bipush 6, 2) := by decide +kernel
theorem dXB_highestPending_10 : decode cXB_highestPending 10 = .ok (.if_icmp .ge 6, 3) := by decide +kernel
theorem dXB_highestPending_13 : decode cXB_highestPending 13 = .ok (.bipush 6, 2) := by decide +kernel
theorem dXB_highestPending_15 : decode cXB_highestPending 15 = .ok (.ireturn, 1) := by decide +kernel
theorem dXB_highestPending_16 : decode cXB_highestPending 16 = .ok (.aload_n 0, 1) := by decide +kernel
theorem dXB_highestPending_17 : decode cXB_highestPending 17 = .ok (.getfield 25, 3) := by decide +kernel
theorem dXB_highestPending_20 : decode cXB_highestPending 20 = .ok (.ifCond .eq 12, 3) := by decide +kernel
theorem dXB_highestPending_23 : decode cXB_highestPending 23 = .ok (.iload_n 1, 1) := by decide +kernel
theorem dXB_highestPending_24 : decode cXB_highestPending 24 = .ok (.iconst 4, 1) := by decide +kernel
theorem dXB_highestPending_25 : decode cXB_highestPending 25 = .ok (.if_icmp .ge 7, 3) := by decide +kernel
theorem dXB_highestPending_28 : decode cXB_highestPending 28 = .ok (.iconst 4, 1) := by decide +kernel
theorem dXB_highestPending_29 : decode cXB_highestPending 29 = .ok (.goto 4, 3) := by decide +kernel
theorem dXB_highestPending_32 : decode cXB_highestPending 32 = .ok (.iconst 0, 1) := by decide +kernel
theorem dXB_highestPending_33 : decode cXB_highestPending 33 = .ok (.ireturn, 1) := by decide +kernel
theorem dXB_takePending_0 : decode cXB_takePending 0 = .ok (.iload_n 1, 1) := by decide +kernel
theorem dXB_takePending_1 : decode cXB_takePending 1 = .ok (.bipush 6, 2) := by decide +kernel
theorem dXB_takePending_3 : decode cXB_takePending 3 = .ok (.if_icmp .ne 11, 3) := by decide +kernel
theorem dXB_takePending_6 : decode cXB_takePending 6 = .ok (.aload_n 0, 1) := by decide +kernel
theorem dXB_takePending_7 : decode cXB_takePending 7 = .ok (.iconst 0, 1) := by decide +kernel
theorem dXB_takePending_8 : decode cXB_takePending 8 = .ok (.putfield 21, 3) := by decide +kernel
theorem dXB_takePending_11 : decode cXB_takePending 11 = .ok (.goto 8, 3) := by decide +kernel
theorem dXB_takePending_14 : decode cXB_takePending 14 = .ok (.aload_n 0, 1) := by decide +kernel
theorem dXB_takePending_15 : decode cXB_takePending 15 = .ok (.iconst 0, 1) := by decide +kernel
theorem dXB_takePending_16 : decode cXB_takePending 16 = .ok (.putfield 25, 3) := by decide +kernel
theorem dXB_takePending_19 : decode cXB_takePending 19 = .ok (.return_, 1) := by decide +kernel
theorem dXB_goOn_0 : decode cXB_goOn 0 = .ok (.aload_n 0, 1) := by decide +kernel
theorem dXB_goOn_1 : decode cXB_goOn 1 = .ok (.getfield 28, 3) := by decide +kernel
theorem dXB_goOn_4 : decode cXB_goOn 4 = .ok (.iload_n 1, 1) := by decide +kernel
theorem dXB_goOn_5 : decode cXB_goOn 5 = .ok (.iadd, 1) := by decide +kernel
theorem dXB_goOn_6 : decode cXB_goOn 6 = .ok (.bipush 64, 2) := by decide +kernel
theorem dXB_goOn_8 : decode cXB_goOn 8 = .ok (.idiv, 1) := by decide +kernel
theorem dXB_goOn_9 : decode cXB_goOn 9 = .ok (.istore_n 2, 1) := by decide +kernel
theorem dXB_goOn_10 : decode cXB_goOn 10 = .ok (.aload_n 0, 1) := by decide +kernel
theorem dXB_goOn_11 : decode cXB_goOn 11 = .ok (.aload_n 0, 1) := by decide +kernel
theorem dXB_goOn_12 : decode cXB_goOn 12 = .ok (.getfield 28, 3) := by decide +kernel
theorem dXB_goOn_15 : decode cXB_goOn 15 = .ok (.iload_n 1, 1) := by decide +kernel
theorem dXB_goOn_16 : decode cXB_goOn 16 = .ok (.iadd, 1) := by decide +kernel
theorem dXB_goOn_17 : decode cXB_goOn 17 = .ok (.bipush 64, 2) := by decide +kernel
theorem dXB_goOn_19 : decode cXB_goOn 19 = .ok (.irem, 1) := by decide +kernel
theorem dXB_goOn_20 : decode cXB_goOn 20 = .ok (.putfield 28, 3) := by decide +kernel
theorem dXB_goOn_23 : decode cXB_goOn 23 = .ok (.iconst 0, 1) := by decide +kernel
theorem dXB_goOn_24 : decode cXB_goOn 24 = .ok (.istore_n 3, 1) := by decide +kernel
theorem dXB_goOn_25 : decode cXB_goOn 25 = .ok (.iload_n 3, 1) := by decide +kernel
theorem dXB_goOn_26 : decode cXB_goOn 26 = .ok (.iload_n 2, 1) := by decide +kernel
theorem dXB_goOn_27 : decode cXB_goOn 27 = .ok (.if_icmp .ge 53, 3) := by decide +kernel
theorem dXB_goOn_30 : decode cXB_goOn 30 = .ok (.aload_n 0, 1) := by decide +kernel
theorem dXB_goOn_31 : decode cXB_goOn 31 = .ok (.aload_n 0, 1) := by decide +kernel
theorem dXB_goOn_32 : decode cXB_goOn 32 = .ok (.getfield 32, 3) := by decide +kernel
theorem dXB_goOn_35 : decode cXB_goOn 35 = .ok (.iconst 1, 1) := by decide +kernel
theorem dXB_goOn_36 : decode cXB_goOn 36 = .ok (.iadd, 1) := by decide +kernel
theorem dXB_goOn_37 : decode cXB_goOn 37 = .ok (.bipush 12, 2) := by decide +kernel
theorem dXB_goOn_39 : decode cXB_goOn 39 = .ok (.irem, 1) := by decide +kernel
theorem dXB_goOn_40 : decode cXB_goOn 40 = .ok (.putfield 32, 3) := by decide +kernel
theorem dXB_goOn_43 : decode cXB_goOn 43 = .ok (.aload_n 0, 1) := by decide +kernel
theorem dXB_goOn_44 : decode cXB_goOn 44 = .ok (.getfield 32, 3) := by decide +kernel
theorem dXB_goOn_47 : decode cXB_goOn 47 = .ok (.bipush 8, 2) := by decide +kernel
theorem dXB_goOn_49 : decode cXB_goOn 49 = .ok (.if_icmp .ge 21, 3) := by decide +kernel
theorem dXB_goOn_52 : decode cXB_goOn 52 = .ok (.aload_n 0, 1) := by decide +kernel
theorem dXB_goOn_53 : decode cXB_goOn 53 = .ok (.getfield 13, 3) := by decide +kernel
theorem dXB_goOn_56 : decode cXB_goOn 56 = .ok (.aload_n 0, 1) := by decide +kernel
theorem dXB_goOn_57 : decode cXB_goOn 57 = .ok (.getfield 32, 3) := by decide +kernel
theorem dXB_goOn_60 : decode cXB_goOn 60 = .ok (.invokevirtual 37, 3) := by decide +kernel
theorem dXB_goOn_63 : decode cXB_goOn 63 = .ok (.aload_n 0, 1) := by decide +kernel
theorem dXB_goOn_64 : decode cXB_goOn 64 = .ok (.invokevirtual 41, 3) := by decide +kernel
theorem dXB_goOn_67 : decode cXB_goOn 67 = .ok (.goto 7, 3) := by decide +kernel
theorem dXB_goOn_70 : decode cXB_goOn 70 = .ok (.aload_n 0, 1) := by decide +kernel
theorem dXB_goOn_71 : decode cXB_goOn 71 = .ok (.invokevirtual 44, 3) := by decide +kernel
theorem dXB_goOn_74 : decode cXB_goOn 74 = .ok (.iinc 3 1, 3) := by decide +kernel
theorem dXB_goOn_77 : decode cXB_goOn 77 = .ok (.goto (-52), 3) := by decide +kernel
theorem dXB_goOn_80 : decode cXB_goOn 80 = .ok (.return_, 1) := by decide +kernel
theorem dXB_beginHiddenLine_0 : decode cXB_beginHiddenLine 0 = .ok (.aload_n 0, 1) := by decide +kernel
theorem dXB_beginHiddenLine_1 : decode cXB_beginHiddenLine 1 = .ok (.aload_n 0, 1) := by decide +kernel
theorem dXB_beginHiddenLine_2 : decode cXB_beginHiddenLine 2 = .ok (.getfield 7, 3) := by decide +kernel
theorem dXB_beginHiddenLine_5 : decode cXB_beginHiddenLine 5 = .ok (.getfield 47, 3) := by decide +kernel
theorem dXB_beginHiddenLine_8 : decode cXB_beginHiddenLine 8 = .ok (.bipush 8, 2) := by decide +kernel
theorem dXB_beginHiddenLine_10 : decode cXB_beginHiddenLine 10 = .ok (.iaload, 1) := by decide +kernel
theorem dXB_beginHiddenLine_11 : decode cXB_beginHiddenLine 11 = .ok (.putfield 53, 3) := by decide +kernel
theorem dXB_beginHiddenLine_14 : decode cXB_beginHiddenLine 14 = .ok (.aload_n 0, 1) := by decide +kernel
theorem dXB_beginHiddenLine_15 : decode cXB_beginHiddenLine 15 = .ok (.getfield 32, 3) := by decide +kernel
theorem dXB_beginHiddenLine_18 : decode cXB_beginHiddenLine 18 = .ok (.bipush 8, 2) := by decide +kernel
theorem dXB_beginHiddenLine_20 : decode cXB_beginHiddenLine 20 = .ok (.if_icmp .ne 41, 3) := by decide +kernel
theorem dXB_beginHiddenLine_23 : decode cXB_beginHiddenLine 23 = .ok (.aload_n 0, 1) := by decide +kernel
theorem dXB_beginHiddenLine_24 : decode cXB_beginHiddenLine 24 = .ok (.aload_n 0, 1) := by decide +kernel
theorem dXB_beginHiddenLine_25 : decode cXB_beginHiddenLine 25 = .ok (.getfield 21, 3) := by decide +kernel
theorem dXB_beginHiddenLine_28 : decode cXB_beginHiddenLine 28 = .ok (.ifCond .ne 18, 3) := by decide +kernel
theorem dXB_beginHiddenLine_31 : decode cXB_beginHiddenLine 31 = .ok (.aload_n 0, 1) := by decide +kernel
theorem dXB_beginHiddenLine_32 : decode cXB_beginHiddenLine 32 = .ok (.getfield 7, 3) := by decide +kernel
theorem dXB_beginHiddenLine_35 : decode cXB_beginHiddenLine 35 = .ok (.getfield 47, 3) := by decide +kernel
theorem dXB_beginHiddenLine_38 : decode cXB_beginHiddenLine 38 = .ok (.iconst 1, 1) := by decide +kernel
theorem dXB_beginHiddenLine_39 : decode cXB_beginHiddenLine 39 = .ok (.iaload, 1) := by decide +kernel
theorem dXB_beginHiddenLine_40 : decode cXB_beginHiddenLine 40 = .ok (.bipush 32, 2) := by decide +kernel
theorem dXB_beginHiddenLine_42 : decode cXB_beginHiddenLine 42 = .ok (.iand, 1) := by decide +kernel
theorem dXB_beginHiddenLine_43 : decode cXB_beginHiddenLine 43 = .ok (.ifCond .eq 7, 3) := by decide +kernel
theorem dXB_beginHiddenLine_46 : decode cXB_beginHiddenLine 46 = .ok (.iconst 1, 1) := by decide +kernel
theorem dXB_beginHiddenLine_47 : decode cXB_beginHiddenLine 47 = .ok (.goto 4, 3) := by decide +kernel
theorem dXB_beginHiddenLine_50 : decode cXB_beginHiddenLine 50 = .ok (.iconst 0, 1) := by decide +kernel
theorem dXB_beginHiddenLine_51 : decode cXB_beginHiddenLine 51 = .ok (.putfield 21, 3) := by decide +kernel
theorem dXB_beginHiddenLine_54 : decode cXB_beginHiddenLine 54 = .ok (.aload_n 0, 1) := by decide +kernel
theorem dXB_beginHiddenLine_55 : decode cXB_beginHiddenLine 55 = .ok (.getfield 17, 3) := by decide +kernel
theorem dXB_beginHiddenLine_58 : decode cXB_beginHiddenLine 58 = .ok (.invokevirtual 56, 3) := by decide +kernel
theorem dXB_beginHiddenLine_61 : decode cXB_beginHiddenLine 61 = .ok (.return_, 1) := by decide +kernel
theorem dXB_countDown_0 : decode cXB_countDown 0 = .ok (.aload_n 0, 1) := by decide +kernel
theorem dXB_countDown_1 : decode cXB_countDown 1 = .ok (.getfield 53, 3) := by decide +kernel
theorem dXB_countDown_4 : decode cXB_countDown 4 = .ok (.ifCond .le 14, 3) := by decide +kernel
theorem dXB_countDown_7 : decode cXB_countDown 7 = .ok (.aload_n 0, 1) := by decide +kernel
theorem dXB_countDown_8 : decode cXB_countDown 8 = .ok (.dup, 1) := by decide +kernel
theorem dXB_countDown_9 : decode cXB_countDown 9 = .ok (.getfield 53, 3) := by decide +kernel
theorem dXB_countDown_12 : decode cXB_countDown 12 = .ok (.iconst 1, 1) := by decide +kernel
theorem dXB_countDown_13 : decode cXB_countDown 13 = .ok (.isub, 1) := by decide +kernel
theorem dXB_countDown_14 : decode cXB_countDown 14 = .ok (.putfield 53, 3) := by decide +kernel
theorem dXB_countDown_17 : decode cXB_countDown 17 = .ok (.return_, 1) := by decide +kernel
theorem dXB_countDown_18 : decode cXB_countDown 18 = .ok (.aload_n 0, 1) := by decide +kernel
theorem dXB_countDown_19 : decode cXB_countDown 19 = .ok (.aload_n 0, 1) := by decide +kernel
theorem dXB_countDown_20 : decode cXB_countDown 20 = .ok (.getfield 7, 3) := by decide +kernel
theorem dXB_countDown_23 : decode cXB_countDown 23 = .ok (.getfield 47, 3) := by decide +kernel
theorem dXB_countDown_26 : decode cXB_countDown 26 = .ok (.bipush 8, 2) := by decide +kernel
theorem dXB_countDown_28 : decode cXB_countDown 28 = .ok (.iaload, 1) := by decide +kernel
theorem dXB_countDown_29 : decode cXB_countDown 29 = .ok (.putfield 53, 3) := by decide +kernel
theorem dXB_countDown_32 : decode cXB_countDown 32 = .ok (.aload_n 0, 1) := by decide +kernel
theorem dXB_countDown_33 : decode cXB_countDown 33 = .ok (.aload_n 0, 1) := by decide +kernel
theorem dXB_countDown_34 : decode cXB_countDown 34 = .ok (.getfield 25, 3) := by decide +kernel
theorem dXB_countDown_37 : decode cXB_countDown 37 = .ok (.ifCond .ne 18, 3) := by decide +kernel
theorem dXB_countDown_40 : decode cXB_countDown 40 = .ok (.aload_n 0, 1) := by decide +kernel
theorem dXB_countDown_41 : decode cXB_countDown 41 = .ok (.getfield 7, 3) := by decide +kernel
theorem dXB_countDown_44 : decode cXB_countDown 44 = .ok (.getfield 47, 3) := by decide +kernel
theorem dXB_countDown_47 : decode cXB_countDown 47 = .ok (.iconst 0, 1) := by decide +kernel
theorem dXB_countDown_48 : decode cXB_countDown 48 = .ok (.iaload, 1) := by decide +kernel
theorem dXB_countDown_49 : decode cXB_countDown 49 = .ok (.bipush 16, 2) := by decide +kernel
theorem dXB_countDown_51 : decode cXB_countDown 51 = .ok (.iand, 1) := by decide +kernel
theorem dXB_countDown_52 : decode cXB_countDown 52 = .ok (.ifCond .eq 7, 3) := by decide +kernel
theorem dXB_countDown_55 : decode cXB_countDown 55 = .ok (.iconst 1, 1) := by decide +kernel
theorem dXB_countDown_56 : decode cXB_countDown 56 = .ok (.goto 4, 3) := by decide +kernel
theorem dXB_countDown_59 : decode cXB_countDown 59 = .ok (.iconst 0, 1) := by decide +kernel
theorem dXB_countDown_60 : decode cXB_countDown 60 = .ok (.putfield 25, 3) := by decide +kernel
theorem dXB_countDown_63 : decode cXB_countDown 63 = .ok (.return_, 1) := by decide +kernel
theorem dXD_init_0 : decode cXD_init 0 = .ok (.aload_n 0, 1) := by decide +kernel
theorem dXD_init_1 : decode cXD_init 1 = .ok (.invokespecial 1, 3) := by decide +kernel
theorem dXD_init_4 : decode cXD_init 4 = .ok (.aload_n 0, 1) := by decide +kernel
theorem dXD_init_5 : decode cXD_init 5 = .ok (.aload_n 1, 1) := by decide +kernel
theorem dXD_init_6 : decode cXD_init 6 = .ok (.putfield 7, 3) := by decide +kernel
theorem dXD_init_9 : decode cXD_init 9 = .ok (.aload_n 0, 1) := by decide +kernel
theorem dXD_init_10 : decode cXD_init 10 = .ok (.aload_n 1, 1) := by decide +kernel
theorem dXD_init_11 : decode cXD_init 11 = .ok (.getfield 13, 3) := by decide +kernel
theorem dXD_init_14 : decode cXD_init 14 = .ok (.putfield 19, 3) := by decide +kernel
theorem dXD_init_17 : decode cXD_init 17 = .ok (.aload_n 0, 1) := by decide +kernel
theorem dXD_init_18 : decode cXD_init 18 = .ok (.sipush 128, 3) := by decide +kernel
theorem dXD_init_21 : decode cXD_init 21 = .ok (.newarray .int, 2) := by decide +kernel
theorem dXD_init_23 : decode cXD_init 23 = .ok (.putfield 20, 3) := by decide +kernel
theorem dXD_init_26 : decode cXD_init 26 = .ok (.aload_n 0, 1) := by decide +kernel
theorem dXD_init_27 : decode cXD_init 27 = .ok (.bipush 16, 2) := by decide +kernel
theorem dXD_init_29 : decode cXD_init 29 = .ok (.newarray .int, 2) := by decide +kernel
theorem dXD_init_31 : decode cXD_init 31 = .ok (.putfield 23, 3) := by decide +kernel
theorem dXD_init_34 : decode cXD_init 34 = .ok (.aload_n 0, 1) := by decide +kernel
theorem dXD_init_35 : decode cXD_init 35 = .ok (.bipush 16, 2) := by decide +kernel
theorem dXD_init_37 : decode cXD_init 37 = .ok (.newarray .int, 2) := by decide +kernel
theorem dXD_init_39 : decode cXD_init 39 = .ok (.putfield 26, 3) := by decide +kernel
theorem dXD_init_42 : decode cXD_init 42 = .ok (.aload_n 0, 1) := by decide +kernel
theorem dXD_init_43 : decode cXD_init 43 = .ok (.bipush 16, 2) := by decide +kernel
theorem dXD_init_45 : decode cXD_init 45 = .ok (.newarray .int, 2) := by decide +kernel
theorem dXD_init_47 : decode cXD_init 47 = .ok (.putfield 29, 3) := by decide +kernel
theorem dXD_init_50 : decode cXD_init 50 = .ok (.aload_n 0, 1) := by decide +kernel
theorem dXD_init_51 : decode cXD_init 51 = .ok (.iconst 3, 1) := by decide +kernel
theorem dXD_init_52 : decode cXD_init 52 = .ok (.newarray .int, 2) := by decide +kernel
theorem dXD_init_54 : decode cXD_init 54 = .ok (.putfield 32, 3) := by decide +kernel
theorem dXD_init_57 : decode cXD_init 57 = .ok (.return_, 1) := by decide +kernel
theorem dXD_draw_0 : decode cXD_draw 0 = .ok (.aload_n 0, 1) := by decide +kernel
theorem dXD_draw_1 : decode cXD_draw 1 = .ok (.getfield 19, 3) := by decide +kernel
theorem dXD_draw_4 : decode cXD_draw 4 = .ok (.iconst 1, 1) := by decide +kernel
theorem dXD_draw_5 : decode cXD_draw 5 = .ok (.iaload, 1) := by decide +kernel
theorem dXD_draw_6 : decode cXD_draw 6 = .ok (.bipush 64, 2) := by decide +kernel
theorem dXD_draw_8 : decode cXD_draw 8 = .ok (.iand, 1) := by decide +kernel
theorem dXD_draw_9 : decode cXD_draw 9 = .ok (.ifCond .eq 7, 3) := by decide +kernel
theorem dXD_draw_12 : decode cXD_draw 12 = .ok (.iconst 1, 1) := by decide +kernel
theorem dXD_draw_13 : decode cXD_draw 13 = .ok (.goto 4, 3) := by decide +kernel
theorem dXD_draw_16 : decode cXD_draw 16 = .ok (.iconst 0, 1) := by decide +kernel
theorem dXD_draw_17 : decode cXD_draw 17 = .ok (.istore_n 2, 1) := by decide +kernel
theorem dXD_draw_18 : decode cXD_draw 18 = .ok (.iload_n 2, 1) := by decide +kernel
theorem dXD_draw_19 : decode cXD_draw 19 = .ok (.ifCond .eq 28, 3) := by decide +kernel
theorem dXD_draw_22 : decode cXD_draw 22 = .ok (.aload_n 0, 1) := by decide +kernel
theorem dXD_draw_23 : decode cXD_draw 23 = .ok (.aload_n 0, 1) := by decide +kernel
theorem dXD_draw_24 : decode cXD_draw 24 = .ok (.getfield 23, 3) := by decide +kernel
theorem dXD_draw_27 : decode cXD_draw 27 = .ok (.iconst 0, 1) := by decide +kernel
theorem dXD_draw_28 : decode cXD_draw 28 = .ok (.iload_n 1, 1) := by decide +kernel
theorem dXD_draw_29 : decode cXD_draw 29 = .ok (.invokevirtual 35, 3) := by decide +kernel
theorem dXD_draw_32 : decode cXD_draw 32 = .ok (.aload_n 0, 1) := by decide +kernel
theorem dXD_draw_33 : decode cXD_draw 33 = .ok (.aload_n 0, 1) := by decide +kernel
theorem dXD_draw_34 : decode cXD_draw 34 = .ok (.getfield 26, 3) := by decide +kernel
theorem dXD_draw_37 : decode cXD_draw 37 = .ok (.iconst 1, 1) := by decide +kernel
theorem dXD_draw_38 : decode cXD_draw 38 = .ok (.iload_n 1, 1) := by decide +kernel
theorem dXD_draw_39 : decode cXD_draw 39 = .ok (.invokevirtual 35, 3) := by decide +kernel
theorem dXD_draw_42 : decode cXD_draw 42 = .ok (.aload_n 0, 1) := by decide +kernel
theorem dXD_draw_43 : decode cXD_draw 43 = .ok (.iload_n 1, 1) := by decide +kernel
theorem dXD_draw_44 : decode cXD_draw 44 = .ok (.invokevirtual 39, 3) := by decide +kernel
theorem dXD_draw_47 : decode cXD_draw 47 = .ok (.aload_n 0, 1) := by decide +kernel
theorem dXD_draw_48 : decode cXD_draw 48 = .ok (.getfield 19, 3) := by decide +kernel
theorem dXD_draw_51 : decode cXD_draw 51 = .ok (.bipush 7, 2) := by decide +kernel
theorem dXD_draw_53 : decode cXD_draw 53 = .ok (.iaload, 1) := by decide +kernel
theorem dXD_draw_54 : decode cXD_draw 54 = .ok (.bipush 15, 2) := by decide +kernel
theorem dXD_draw_56 : decode cXD_draw 56 = .ok (.iand, 1) := by decide +kernel
theorem dXD_draw_57 : decode cXD_draw 57 = .ok (.istore_n 3, 1) := by decide +kernel
theorem dXD_draw_58 : decode cXD_draw 58 = .ok (.iconst 0, 1) := by decide +kernel
theorem dXD_draw_59 : decode cXD_draw 59 = .ok (.istore 4, 2) := by decide +kernel
theorem dXD_draw_61 : decode cXD_draw 61 = .ok (.iload 4, 2) := by decide +kernel
theorem dXD_draw_63 : decode cXD_draw 63 = .ok (.bipush 16, 2) := by decide +kernel
theorem dXD_draw_65 : decode cXD_draw 65 = .ok (.if_icmp .ge 69, 3) := by decide +kernel
theorem dXD_draw_68 : decode cXD_draw 68 = .ok (.iload_n 2, 1) := by decide +kernel
theorem dXD_draw_69 : decode cXD_draw 69 = .ok (.ifCond .eq 30, 3) := by decide +kernel
theorem dXD_draw_72 : decode cXD_draw 72 = .ok (.aload_n 0, 1) := by decide +kernel
theorem dXD_draw_73 : decode cXD_draw 73 = .ok (.getfield 29, 3) := by decide +kernel
theorem dXD_draw_76 : decode cXD_draw 76 = .ok (.iload 4, 2) := by decide +kernel
theorem dXD_draw_78 : decode cXD_draw 78 = .ok (.iaload, 1) := by decide +kernel
theorem dXD_draw_79 : decode cXD_draw 79 = .ok (.aload_n 0, 1) := by decide +kernel
theorem dXD_draw_80 : decode cXD_draw 80 = .ok (.getfield 23, 3) := by decide +kernel
theorem dXD_draw_83 : decode cXD_draw 83 = .ok (.iload 4, 2) := by decide +kernel
theorem dXD_draw_85 : decode cXD_draw 85 = .ok (.iaload, 1) := by decide +kernel
theorem dXD_draw_86 : decode cXD_draw 86 = .ok (.aload_n 0, 1) := by decide +kernel
theorem dXD_draw_87 : decode cXD_draw 87 = .ok (.getfield 26, 3) := by decide +kernel
theorem dXD_draw_90 : decode cXD_draw 90 = .ok (.iload 4, 2) := by decide +kernel
theorem dXD_draw_92 : decode cXD_draw 92 = .ok (.iaload, 1) := by decide +kernel
theorem dXD_draw_93 : decode cXD_draw 93 = .ok (.invokestatic 43, 3) := by decide +kernel
theorem dXD_draw_96 : decode cXD_draw 96 = .ok (.goto 4, 3) := by decide +kernel
theorem dXD_draw_99 : decode cXD_draw 99 = .ok (.iconst 0, 1) := by decide +kernel
theorem dXD_draw_100 : decode cXD_draw 100 = .ok (.istore 5, 2) := by decide +kernel
theorem dXD_draw_102 : decode cXD_draw 102 = .ok (.aload_n 0, 1) := by decide +kernel
theorem dXD_draw_103 : decode cXD_draw 103 = .ok (.getfield 20, 3) := by decide +kernel
theorem dXD_draw_106 : decode cXD_draw 106 = .ok (.iload_n 1, 1) := by decide +kernel
theorem dXD_draw_107 : decode cXD_draw 107 = .ok (.bipush 16, 2) := by decide +kernel
theorem dXD_draw_109 : decode cXD_draw 109 = .ok (.imul, 1) := by decide +kernel
theorem dXD_draw_110 : decode cXD_draw 110 = .ok (.iload 4, 2) := by decide +kernel
theorem dXD_draw_112 : decode cXD_draw 112 = .ok (.iadd, 1) := by decide +kernel
theorem dXD_draw_113 : decode cXD_draw 113 = .ok (.iload 5, 2) := by decide +kernel
theorem dXD_draw_115 : decode cXD_draw 115 = .ok (.ifCond .ne 7, 3) := by decide +kernel
theorem dXD_draw_118 : decode cXD_draw 118 = .ok (.iload_n 3, 1) := by decide +kernel
theorem dXD_draw_119 : decode cXD_draw 119 = .ok (.goto 8, 3) := by decide +kernel
theorem dXD_draw_122 : decode cXD_draw 122 = .ok (.iload 5, 2) := by decide +kernel
theorem dXD_draw_124 : decode cXD_draw 124 = .ok (.bipush 15, 2) := by decide +kernel
theorem dXD_draw_126 : decode cXD_draw 126 = .ok (.iand, 1) := by decide +kernel
theorem dXD_draw_127 : decode cXD_draw 127 = .ok (.iastore, 1) := by decide +kernel
theorem dXD_draw_128 : decode cXD_draw 128 = .ok (.iinc 4 1, 3) := by decide +kernel
theorem dXD_draw_131 : decode cXD_draw 131 = .ok (.goto (-70), 3) := by decide +kernel
theorem dXD_draw_134 : decode cXD_draw 134 = .ok (.return_, 1) := by decide +kernel
theorem dXD_foremost_0 : decode cXD_foremost 0 = .ok (.iload_n 0, 1) := by decide +kernel
theorem dXD_foremost_1 : decode cXD_foremost 1 = .ok (.bipush 16, 2) := by decide +kernel
theorem dXD_foremost_3 : decode cXD_foremost 3 = .ok (.if_icmp .le 5, 3) := by decide +kernel
theorem dXD_foremost_6 : decode cXD_foremost 6 = .ok (.iload_n 0, 1) := by decide +kernel
theorem dXD_foremost_7 : decode cXD_foremost 7 = .ok (.ireturn, 1) := by decide +kernel
theorem dXD_foremost_8 : decode cXD_foremost 8 = .ok (.iload_n 1, 1) := by decide +kernel
theorem dXD_foremost_9 : decode cXD_foremost 9 = .ok (.bipush 16, 2) := by decide +kernel
theorem dXD_foremost_11 : decode cXD_foremost 11 = .ok (.if_icmp .le 5, 3) := by decide +kernel
theorem dXD_foremost_14 : decode cXD_foremost 14 = .ok (.iload_n 1, 1) := by decide +kernel
theorem dXD_foremost_15 : decode cXD_foremost 15 = .ok (.ireturn, 1) := by decide +kernel
theorem dXD_foremost_16 : decode cXD_foremost 16 = .ok (.iload_n 2, 1) := by decide +kernel
theorem dXD_foremost_17 : decode cXD_foremost 17 = .ok (.bipush 16, 2) := by decide +kernel
theorem dXD_foremost_19 : decode cXD_foremost 19 = .ok (.if_icmp .le 5, 3) := by decide +kernel
theorem dXD_foremost_22 : decode cXD_foremost 22 = .ok (.iload_n 2, 1) := by decide +kernel
theorem dXD_foremost_23 : decode cXD_foremost 23 = .ok (.ireturn, 1) := by decide +kernel
theorem dXD_foremost_24 : decode cXD_foremost 24 = .ok (.iload_n 0, 1) := by decide +kernel
theorem dXD_foremost_25 : decode cXD_foremost 25 = .ok (.ifCond .eq 5, 3) := by decide +kernel
theorem dXD_foremost_28 : decode cXD_foremost 28 = .ok (.iload_n 0, 1) := by decide +kernel
theorem dXD_foremost_29 : decode cXD_foremost 29 = .ok (.ireturn, 1) := by decide +kernel
theorem dXD_foremost_30 : decode cXD_foremost 30 = .ok (.iload_n 1, 1) := by decide +kernel
theorem dXD_foremost_31 : decode cXD_foremost 31 = .ok (.ifCond .eq 7, 3) := by decide +kernel
theorem dXD_foremost_34 : decode cXD_foremost 34 = .ok (.iload_n 1, 1) := by decide +kernel
theorem dXD_foremost_35 : decode cXD_foremost 35 = .ok (.goto 4, 3) := by decide +kernel
theorem dXD_foremost_38 : decode cXD_foremost 38 = .ok (.iload_n 2, 1) := by decide +kernel
theorem dXD_foremost_39 : decode cXD_foremost 39 = .ok (.ireturn, 1) := by decide +kernel
theorem dXD_drawPlane_0 : decode cXD_drawPlane 0 = .ok (.aload_n 0, 1) := by decide +kernel
theorem dXD_drawPlane_1 : decode cXD_drawPlane 1 = .ok (.getfield 19, 3) := by decide +kernel
theorem dXD_drawPlane_4 : decode cXD_drawPlane 4 = .ok (.iconst 2, 1) := by decide +kernel
theorem dXD_drawPlane_5 : decode cXD_drawPlane 5 = .ok (.iconst 2, 1) := by decide +kernel
theorem dXD_drawPlane_6 : decode cXD_drawPlane 6 = .ok (.iload_n 2, 1) := by decide +kernel
theorem dXD_drawPlane_7 : decode cXD_drawPlane 7 = .ok (.imul, 1) := by decide +kernel
theorem dXD_drawPlane_8 : decode cXD_drawPlane 8 = .ok (.iadd, 1) := by decide +kernel
theorem dXD_drawPlane_9 : decode cXD_drawPlane 9 = .ok (.iaload, 1) := by decide +kernel
theorem dXD_drawPlane_10 : decode cXD_drawPlane 10 = .ok (.bipush 15, 2) := by decide +kernel
theorem dXD_drawPlane_12 : decode cXD_drawPlane 12 = .ok (.iand, 1) := by decide +kernel
theorem dXD_drawPlane_13 : decode cXD_drawPlane 13 = .ok (.bipush 32, 2) := by decide +kernel
theorem dXD_drawPlane_15 : decode cXD_drawPlane 15 = .ok (.imul, 1) := by decide +kernel
theorem dXD_drawPlane_16 : decode cXD_drawPlane 16 = .ok (.istore 4, 2) := by decide +kernel
theorem dXD_drawPlane_18 : decode cXD_drawPlane 18 = .ok (.aload_n 0, 1) := by decide +kernel
theorem dXD_drawPlane_19 : decode cXD_drawPlane 19 = .ok (.getfield 7, 3) := by decide +kernel
theorem dXD_drawPlane_22 : decode cXD_drawPlane 22 = .ok (.aload_n 0, 1) := by decide +kernel
theorem dXD_drawPlane_23 : decode cXD_drawPlane 23 = .ok (.getfield 19, 3) := by decide +kernel
theorem dXD_drawPlane_26 : decode cXD_drawPlane 26 = .ok (.bipush 13, 2) := by decide +kernel
theorem dXD_drawPlane_28 : decode cXD_drawPlane 28 = .ok (.iaload, 1) := by decide +kernel
theorem dXD_drawPlane_29 : decode cXD_drawPlane 29 = .ok (.bipush 31, 2) := by decide +kernel
theorem dXD_drawPlane_31 : decode cXD_drawPlane 31 = .ok (.iand, 1) := by decide +kernel
theorem dXD_drawPlane_32 : decode cXD_drawPlane 32 = .ok (.bipush 16, 2) := by decide +kernel
theorem dXD_drawPlane_34 : decode cXD_drawPlane 34 = .ok (.imul, 1) := by decide +kernel
theorem dXD_drawPlane_35 : decode cXD_drawPlane 35 = .ok (.iload_n 2, 1) := by decide +kernel
theorem dXD_drawPlane_36 : decode cXD_drawPlane 36 = .ok (.iadd, 1) := by decide +kernel
theorem dXD_drawPlane_37 : decode cXD_drawPlane 37 = .ok (.invokevirtual 47, 3) := by decide +kernel
theorem dXD_drawPlane_40 : decode cXD_drawPlane 40 = .ok (.istore 5, 2) := by decide +kernel
theorem dXD_drawPlane_42 : decode cXD_drawPlane 42 = .ok (.aload_n 0, 1) := by decide +kernel
theorem dXD_drawPlane_43 : decode cXD_drawPlane 43 = .ok (.getfield 7, 3) := by decide +kernel
theorem dXD_drawPlane_46 : decode cXD_drawPlane 46 = .ok (.getfield 51, 3) := by decide +kernel
theorem dXD_drawPlane_49 : decode cXD_drawPlane 49 = .ok (.iload_n 2, 1) := by decide +kernel
theorem dXD_drawPlane_50 : decode cXD_drawPlane 50 = .ok (.iaload, 1) := by decide +kernel
theorem dXD_drawPlane_51 : decode cXD_drawPlane 51 = .ok (.istore 6, 2) := by decide +kernel
theorem dXD_drawPlane_53 : decode cXD_drawPlane 53 = .ok (.iload_n 2, 1) := by decide +kernel
theorem dXD_drawPlane_54 : decode cXD_drawPlane 54 = .ok (.ifCond .ne 15, 3) := by decide +kernel
theorem dXD_drawPlane_57 : decode cXD_drawPlane 57 = .ok (.aload_n 0, 1) := by decide +kernel
theorem dXD_drawPlane_58 : decode cXD_drawPlane 58 = .ok (.getfield 19, 3) := by decide +kernel
theorem dXD_drawPlane_61 : decode cXD_drawPlane 61 = .ok (.iconst 3, 1) := by decide +kernel
theorem dXD_drawPlane_62 : decode cXD_drawPlane 62 = .ok (.iaload, 1) := by decide +kernel
theorem dXD_drawPlane_63 : decode cXD_drawPlane 63 = .ok (.bipush 7, 2) := by decide +kernel
theorem dXD_drawPlane_65 : decode cXD_drawPlane 65 = .ok (.iand, 1) := by decide +kernel
theorem dXD_drawPlane_66 : decode cXD_drawPlane 66 = .ok (.goto 4, 3) := by decide +kernel
theorem dXD_drawPlane_69 : decode cXD_drawPlane 69 = .ok (.iconst 0, 1) := by decide +kernel
theorem dXD_drawPlane_70 : decode cXD_drawPlane 70 = .ok (.istore 7, 2) := by decide +kernel
theorem dXD_drawPlane_72 : decode cXD_drawPlane 72 = .ok (.iconst 0, 1) := by decide +kernel
theorem dXD_drawPlane_73 : decode cXD_drawPlane 73 = .ok (.istore 8, 2) := by decide +kernel
theorem dXD_drawPlane_75 : decode cXD_drawPlane 75 = .ok (.iload 8, 2) := by decide +kernel
theorem dXD_drawPlane_77 : decode cXD_drawPlane 77 = .ok (.bipush 16, 2) := by decide +kernel
theorem dXD_drawPlane_79 : decode cXD_drawPlane 79 = .ok (.if_icmp .ge 105, 3) := by decide +kernel
theorem dXD_drawPlane_82 : decode cXD_drawPlane 82 = .ok (.iload 8, 2) := by decide +kernel
theorem dXD_drawPlane_84 : decode cXD_drawPlane 84 = .ok (.iconst 4, 1) := by decide +kernel
theorem dXD_drawPlane_85 : decode cXD_drawPlane 85 = .ok (.idiv, 1) := by decide +kernel
theorem dXD_drawPlane_86 : decode cXD_drawPlane 86 = .ok (.iload 7, 2) := by decide +kernel
theorem dXD_drawPlane_88 : decode cXD_drawPlane 88 = .ok (.if_icmp .lt 7, 3) := by decide +kernel
theorem dXD_drawPlane_91 : decode cXD_drawPlane 91 = .ok (.iconst 1, 1) := by decide +kernel
theorem dXD_drawPlane_92 : decode cXD_drawPlane 92 = .ok (.goto 4, 3) := by decide +kernel
theorem dXD_drawPlane_95 : decode cXD_drawPlane 95 = .ok (.iconst 0, 1) := by decide +kernel
theorem dXD_drawPlane_96 : decode cXD_drawPlane 96 = .ok (.istore 9, 2) := by decide +kernel
theorem dXD_drawPlane_98 : decode cXD_drawPlane 98 = .ok (.iload 9, 2) := by decide +kernel
theorem dXD_drawPlane_100 : decode cXD_drawPlane 100 = .ok (.ifCond .eq 14, 3) := by decide +kernel
theorem dXD_drawPlane_103 : decode cXD_drawPlane 103 = .ok (.iload 8, 2) := by decide +kernel
theorem dXD_drawPlane_105 : decode cXD_drawPlane 105 = .ok (.iload 5, 2) := by decide +kernel
theorem dXD_drawPlane_107 : decode cXD_drawPlane 107 = .ok (.isub, 1) := by decide +kernel
theorem dXD_drawPlane_108 : decode cXD_drawPlane 108 = .ok (.bipush 31, 2) := by decide +kernel
theorem dXD_drawPlane_110 : decode cXD_drawPlane 110 = .ok (.iand, 1) := by decide +kernel
theorem dXD_drawPlane_111 : decode cXD_drawPlane 111 = .ok (.goto 5, 3) := by decide +kernel
theorem dXD_drawPlane_114 : decode cXD_drawPlane 114 = .ok (.iload 8, 2) := by decide +kernel
theorem dXD_drawPlane_116 : decode cXD_drawPlane 116 = .ok (.istore 10, 2) := by decide +kernel
theorem dXD_drawPlane_118 : decode cXD_drawPlane 118 = .ok (.iload 9, 2) := by decide +kernel
theorem dXD_drawPlane_120 : decode cXD_drawPlane 120 = .ok (.ifCond .eq 13, 3) := by decide +kernel
theorem dXD_drawPlane_123 : decode cXD_drawPlane 123 = .ok (.iload_n 3, 1) := by decide +kernel
theorem dXD_drawPlane_124 : decode cXD_drawPlane 124 = .ok (.iload 6, 2) := by decide +kernel
theorem dXD_drawPlane_126 : decode cXD_drawPlane 126 = .ok (.iadd, 1) := by decide +kernel
theorem dXD_drawPlane_127 : decode cXD_drawPlane 127 = .ok (.bipush 15, 2) := by decide +kernel
theorem dXD_drawPlane_129 : decode cXD_drawPlane 129 = .ok (.iand, 1) := by decide +kernel
theorem dXD_drawPlane_130 : decode cXD_drawPlane 130 = .ok (.goto 4, 3) := by decide +kernel
theorem dXD_drawPlane_133 : decode cXD_drawPlane 133 = .ok (.iload_n 3, 1) := by decide +kernel
theorem dXD_drawPlane_134 : decode cXD_drawPlane 134 = .ok (.istore 11, 2) := by decide +kernel
theorem dXD_drawPlane_136 : decode cXD_drawPlane 136 = .ok (.aload_n 0, 1) := by decide +kernel
theorem dXD_drawPlane_137 : decode cXD_drawPlane 137 = .ok (.getfield 7, 3) := by decide +kernel
theorem dXD_drawPlane_140 : decode cXD_drawPlane 140 = .ok (.iload 4, 2) := by decide +kernel
theorem dXD_drawPlane_142 : decode cXD_drawPlane 142 = .ok (.iload 11, 2) := by decide +kernel
theorem dXD_drawPlane_144 : decode cXD_drawPlane 144 = .ok (.iconst 4, 1) := by decide +kernel
theorem dXD_drawPlane_145 : decode cXD_drawPlane 145 = .ok (.idiv, 1) := by decide +kernel
theorem dXD_drawPlane_146 : decode cXD_drawPlane 146 = .ok (.bipush 8, 2) := by decide +kernel
theorem dXD_drawPlane_148 : decode cXD_drawPlane 148 = .ok (.imul, 1) := by decide +kernel
theorem dXD_drawPlane_149 : decode cXD_drawPlane 149 = .ok (.iadd, 1) := by decide +kernel
theorem dXD_drawPlane_150 : decode cXD_drawPlane 150 = .ok (.iload 10, 2) := by decide +kernel
theorem dXD_drawPlane_152 : decode cXD_drawPlane 152 = .ok (.iconst 4, 1) := by decide +kernel
theorem dXD_drawPlane_153 : decode cXD_drawPlane 153 = .ok (.idiv, 1) := by decide +kernel
theorem dXD_drawPlane_154 : decode cXD_drawPlane 154 = .ok (.iadd, 1) := by decide +kernel
theorem dXD_drawPlane_155 : decode cXD_drawPlane 155 = .ok (.invokevirtual 47, 3) := by decide +kernel
theorem dXD_drawPlane_158 : decode cXD_drawPlane 158 = .ok (.istore 12, 2) := by decide +kernel
theorem dXD_drawPlane_160 : decode cXD_drawPlane 160 = .ok (.aload_n 1, 1) := by decide +kernel
theorem dXD_drawPlane_161 : decode cXD_drawPlane 161 = .ok (.iload 8, 2) := by decide +kernel
theorem dXD_drawPlane_163 : decode cXD_drawPlane 163 = .ok (.aload_n 0, 1) := by decide +kernel
theorem dXD_drawPlane_164 : decode cXD_drawPlane 164 = .ok (.iload 12, 2) := by decide +kernel
theorem dXD_drawPlane_166 : decode cXD_drawPlane 166 = .ok (.iload 10, 2) := by decide +kernel
theorem dXD_drawPlane_168 : decode cXD_drawPlane 168 = .ok (.iconst 3, 1) := by decide +kernel
theorem dXD_drawPlane_169 : decode cXD_drawPlane 169 = .ok (.iand, 1) := by decide +kernel
theorem dXD_drawPlane_170 : decode cXD_drawPlane 170 = .ok (.iload 11, 2) := by decide +kernel
theorem dXD_drawPlane_172 : decode cXD_drawPlane 172 = .ok (.iconst 3, 1) := by decide +kernel
theorem dXD_drawPlane_173 : decode cXD_drawPlane 173 = .ok (.iand, 1) := by decide +kernel
theorem dXD_drawPlane_174 : decode cXD_drawPlane 174 = .ok (.invokevirtual 54, 3) := by decide +kernel
theorem dXD_drawPlane_177 : decode cXD_drawPlane 177 = .ok (.iastore, 1) := by decide +kernel
theorem dXD_drawPlane_178 : decode cXD_drawPlane 178 = .ok (.iinc 8 1, 3) := by decide +kernel
theorem dXD_drawPlane_181 : decode cXD_drawPlane 181 = .ok (.goto (-106), 3) := by decide +kernel
theorem dXD_drawPlane_184 : decode cXD_drawPlane 184 = .ok (.return_, 1) := by decide +kernel
theorem dXD_patternDot_0 : decode cXD_patternDot 0 = .ok (.iload_n 1, 1) := by decide +kernel
theorem dXD_patternDot_1 : decode cXD_patternDot 1 = .ok (.sipush 2048, 3) := by decide +kernel
theorem dXD_patternDot_4 : decode cXD_patternDot 4 = .ok (.iand, 1) := by decide +kernel
theorem dXD_patternDot_5 : decode cXD_patternDot 5 = .ok (.ifCond .eq 9, 3) := by decide +kernel
theorem dXD_patternDot_8 : decode cXD_patternDot 8 = .ok (.iconst 3, 1) := by decide +kernel
theorem dXD_patternDot_9 : decode cXD_patternDot 9 = .ok (.iload_n 2, 1) := by decide +kernel
theorem dXD_patternDot_10 : decode cXD_patternDot 10 = .ok (.isub, 1) := by decide +kernel
theorem dXD_patternDot_11 : decode cXD_patternDot 11 = .ok (.goto 4, 3) := by decide +kernel
theorem dXD_patternDot_14 : decode cXD_patternDot 14 = .ok (.iload_n 2, 1) := by decide +kernel
theorem dXD_patternDot_15 : decode cXD_patternDot 15 = .ok (.istore 4, 2) := by decide +kernel
theorem dXD_patternDot_17 : decode cXD_patternDot 17 = .ok (.iload_n 1, 1) := by decide +kernel
theorem dXD_patternDot_18 : decode cXD_patternDot 18 = .ok (.sipush 4096, 3) := by decide +kernel
theorem dXD_patternDot_21 : decode cXD_patternDot 21 = .ok (.iand, 1) := by decide +kernel
theorem dXD_patternDot_22 : decode cXD_patternDot 22 = .ok (.ifCond .eq 9, 3) := by decide +kernel
theorem dXD_patternDot_25 : decode cXD_patternDot 25 = .ok (.iconst 3, 1) := by decide +kernel
theorem dXD_patternDot_26 : decode cXD_patternDot 26 = .ok (.iload_n 3, 1) := by decide +kernel
theorem dXD_patternDot_27 : decode cXD_patternDot 27 = .ok (.isub, 1) := by decide +kernel
theorem dXD_patternDot_28 : decode cXD_patternDot 28 = .ok (.goto 4, 3) := by decide +kernel
theorem dXD_patternDot_31 : decode cXD_patternDot 31 = .ok (.iload_n 3, 1) := by decide +kernel
theorem dXD_patternDot_32 : decode cXD_patternDot 32 = .ok (.istore 5, 2) := by decide +kernel
theorem dXD_patternDot_34 : decode cXD_patternDot 34 = .ok (.aload_n 0, 1) := by decide +kernel
theorem dXD_patternDot_35 : decode cXD_patternDot 35 = .ok (.getfield 7, 3) := by decide +kernel
theorem dXD_patternDot_38 : decode cXD_patternDot 38 = .ok (.iload_n 1, 1) := by decide +kernel
theorem dXD_patternDot_39 : decode cXD_patternDot 39 = .ok (.bipush 127, 2) := by decide +kernel
theorem dXD_patternDot_41 : decode cXD_patternDot 41 = .ok (.iand, 1) := by decide +kernel
theorem dXD_patternDot_42 : decode cXD_patternDot 42 = .ok (.iconst 4, 1) := by decide +kernel
theorem dXD_patternDot_43 : decode cXD_patternDot 43 = .ok (.imul, 1) := by decide +kernel
theorem dXD_patternDot_44 : decode cXD_patternDot 44 = .ok (.iload 5, 2) := by decide +kernel
theorem dXD_patternDot_46 : decode cXD_patternDot 46 = .ok (.iadd, 1) := by decide +kernel
theorem dXD_patternDot_47 : decode cXD_patternDot 47 = .ok (.invokevirtual 47, 3) := by decide +kernel
theorem dXD_patternDot_50 : decode cXD_patternDot 50 = .ok (.bipush 12, 2) := by decide +kernel
theorem dXD_patternDot_52 : decode cXD_patternDot 52 = .ok (.iconst 4, 1) := by decide +kernel
theorem dXD_patternDot_53 : decode cXD_patternDot 53 = .ok (.iload 4, 2) := by decide +kernel
theorem dXD_patternDot_55 : decode cXD_patternDot 55 = .ok (.imul, 1) := by decide +kernel
theorem dXD_patternDot_56 : decode cXD_patternDot 56 = .ok (.isub, 1) := by decide +kernel
theorem dXD_patternDot_57 : decode cXD_patternDot 57 = .ok (.ishr, 1) := by decide +kernel
theorem dXD_patternDot_58 : decode cXD_patternDot 58 = .ok (.bipush 15, 2) := by decide +kernel
theorem dXD_patternDot_60 : decode cXD_patternDot 60 = .ok (.iand, 1) := by decide +kernel
theorem dXD_patternDot_61 : decode cXD_patternDot 61 = .ok (.istore 6, 2) := by decide +kernel
theorem dXD_patternDot_63 : decode cXD_patternDot 63 = .ok (.iload 6, 2) := by decide +kernel
theorem dXD_patternDot_65 : decode cXD_patternDot 65 = .ok (.ifCond .eq 18, 3) := by decide +kernel
theorem dXD_patternDot_68 : decode cXD_patternDot 68 = .ok (.iload_n 1, 1) := by decide +kernel
theorem dXD_patternDot_69 : decode cXD_patternDot 69 = .ok (.ldc 57, 2) := by decide +kernel
theorem dXD_patternDot_71 : decode cXD_patternDot 71 = .ok (.iand, 1) := by decide +kernel
theorem dXD_patternDot_72 : decode cXD_patternDot 72 = .ok (.ifCond .eq 11, 3) := by decide +kernel
theorem dXD_patternDot_75 : decode cXD_patternDot 75 = .ok (.iload 6, 2) := by decide +kernel
theorem dXD_patternDot_77 : decode cXD_patternDot 77 = .ok (.bipush 16, 2) := by decide +kernel
theorem dXD_patternDot_79 : decode cXD_patternDot 79 = .ok (.iadd, 1) := by decide +kernel
theorem dXD_patternDot_80 : decode cXD_patternDot 80 = .ok (.goto 5, 3) := by decide +kernel
theorem dXD_patternDot_83 : decode cXD_patternDot 83 = .ok (.iload 6, 2) := by decide +kernel
theorem dXD_patternDot_85 : decode cXD_patternDot 85 = .ok (.ireturn, 1) := by decide +kernel
theorem dXD_drawSprites_0 : decode cXD_drawSprites 0 = .ok (.iconst 0, 1) := by decide +kernel
theorem dXD_drawSprites_1 : decode cXD_drawSprites 1 = .ok (.istore_n 2, 1) := by decide +kernel
theorem dXD_drawSprites_2 : decode cXD_drawSprites 2 = .ok (.iload_n 2, 1) := by decide +kernel
theorem dXD_drawSprites_3 : decode cXD_drawSprites 3 = .ok (.bipush 16, 2) := by decide +kernel
theorem dXD_drawSprites_5 : decode cXD_drawSprites 5 = .ok (.if_icmp .ge 16, 3) := by decide +kernel
theorem dXD_drawSprites_8 : decode cXD_drawSprites 8 = .ok (.aload_n 0, 1) := by decide +kernel
theorem dXD_drawSprites_9 : decode cXD_drawSprites 9 = .ok (.getfield 29, 3) := by decide +kernel
theorem dXD_drawSprites_12 : decode cXD_drawSprites 12 = .ok (.iload_n 2, 1) := by decide +kernel
theorem dXD_drawSprites_13 : decode cXD_drawSprites 13 = .ok (.iconst 0, 1) := by decide +kernel
theorem dXD_drawSprites_14 : decode cXD_drawSprites 14 = .ok (.iastore, 1) := by decide +kernel
theorem dXD_drawSprites_15 : decode cXD_drawSprites 15 = .ok (.iinc 2 1, 3) := by decide +kernel
theorem dXD_drawSprites_18 : decode cXD_drawSprites 18 = .ok (.goto (-16), 3) := by decide +kernel
theorem dXD_drawSprites_21 : decode cXD_drawSprites 21 = .ok (.aload_n 0, 1) := by decide +kernel
theorem dXD_drawSprites_22 : decode cXD_drawSprites 22 = .ok (.iload_n 1, 1) := by decide +kernel
theorem dXD_drawSprites_23 : decode cXD_drawSprites 23 = .ok (.invokevirtual 58, 3) := by decide +kernel
theorem dXD_drawSprites_26 : decode cXD_drawSprites 26 = .ok (.istore_n 2, 1) := by decide +kernel
theorem dXD_drawSprites_27 : decode cXD_drawSprites 27 = .ok (.iconst 0, 1) := by decide +kernel
theorem dXD_drawSprites_28 : decode cXD_drawSprites 28 = .ok (.istore_n 3, 1) := by decide +kernel
theorem dXD_drawSprites_29 : decode cXD_drawSprites 29 = .ok (.iload_n 3, 1) := by decide +kernel
theorem dXD_drawSprites_30 : decode cXD_drawSprites 30 = .ok (.iload_n 2, 1) := by decide +kernel
theorem dXD_drawSprites_31 : decode cXD_drawSprites 31 = .ok (.if_icmp .ge 20, 3) := by decide +kernel
theorem dXD_drawSprites_34 : decode cXD_drawSprites 34 = .ok (.aload_n 0, 1) := by decide +kernel
theorem dXD_drawSprites_35 : decode cXD_drawSprites 35 = .ok (.aload_n 0, 1) := by decide +kernel
theorem dXD_drawSprites_36 : decode cXD_drawSprites 36 = .ok (.getfield 32, 3) := by decide +kernel
theorem dXD_drawSprites_39 : decode cXD_drawSprites 39 = .ok (.iload_n 3, 1) := by decide +kernel
theorem dXD_drawSprites_40 : decode cXD_drawSprites 40 = .ok (.iaload, 1) := by decide +kernel
theorem dXD_drawSprites_41 : decode cXD_drawSprites 41 = .ok (.iload_n 1, 1) := by decide +kernel
theorem dXD_drawSprites_42 : decode cXD_drawSprites 42 = .ok (.invokevirtual 61, 3) := by decide +kernel
theorem dXD_drawSprites_45 : decode cXD_drawSprites 45 = .ok (.iinc 3 1, 3) := by decide +kernel
theorem dXD_drawSprites_48 : decode cXD_drawSprites 48 = .ok (.goto (-19), 3) := by decide +kernel
theorem dXD_drawSprites_51 : decode cXD_drawSprites 51 = .ok (.return_, 1) := by decide +kernel
theorem dXD_takeSprites_0 : decode cXD_takeSprites 0 = .ok (.aload_n 0, 1) := by decide +kernel
theorem dXD_takeSprites_1 : decode cXD_takeSprites 1 = .ok (.getfield 19, 3) := by decide +kernel
theorem dXD_takeSprites_4 : decode cXD_takeSprites 4 = .ok (.iconst 5, 1) := by decide +kernel
theorem dXD_takeSprites_5 : decode cXD_takeSprites 5 = .ok (.iaload, 1) := by decide +kernel
theorem dXD_takeSprites_6 : decode cXD_takeSprites 6 = .ok (.bipush 15, 2) := by decide +kernel
theorem dXD_takeSprites_8 : decode cXD_takeSprites 8 = .ok (.iand, 1) := by decide +kernel
theorem dXD_takeSprites_9 : decode cXD_takeSprites 9 = .ok (.bipush 32, 2) := by decide +kernel
theorem dXD_takeSprites_11 : decode cXD_takeSprites 11 = .ok (.imul, 1) := by decide +kernel
theorem dXD_takeSprites_12 : decode cXD_takeSprites 12 = .ok (.istore_n 2, 1) := by decide +kernel
theorem dXD_takeSprites_13 : decode cXD_takeSprites 13 = .ok (.iconst 0, 1) := by decide +kernel
theorem dXD_takeSprites_14 : decode cXD_takeSprites 14 = .ok (.istore_n 3, 1) := by decide +kernel
theorem dXD_takeSprites_15 : decode cXD_takeSprites 15 = .ok (.iconst 0, 1) := by decide +kernel
theorem dXD_takeSprites_16 : decode cXD_takeSprites 16 = .ok (.istore 4, 2) := by decide +kernel
theorem dXD_takeSprites_18 : decode cXD_takeSprites 18 = .ok (.iconst 0, 1) := by decide +kernel
theorem dXD_takeSprites_19 : decode cXD_takeSprites 19 = .ok (.istore 5, 2) := by decide +kernel
theorem dXD_takeSprites_21 : decode cXD_takeSprites 21 = .ok (.iload 5, 2) := by decide +kernel
theorem dXD_takeSprites_23 : decode cXD_takeSprites 23 = .ok (.bipush 8, 2) := by decide +kernel
theorem dXD_takeSprites_25 : decode cXD_takeSprites 25 = .ok (.if_icmp .ge 96, 3) := by decide +kernel
theorem dXD_takeSprites_28 : decode cXD_takeSprites 28 = .ok (.iload_n 2, 1) := by decide +kernel
theorem dXD_takeSprites_29 : decode cXD_takeSprites 29 = .ok (.iconst 4, 1) := by decide +kernel
theorem dXD_takeSprites_30 : decode cXD_takeSprites 30 = .ok (.iload 4, 2) := by decide +kernel
theorem dXD_takeSprites_32 : decode cXD_takeSprites 32 = .ok (.imul, 1) := by decide +kernel
theorem dXD_takeSprites_33 : decode cXD_takeSprites 33 = .ok (.iadd, 1) := by decide +kernel
theorem dXD_takeSprites_34 : decode cXD_takeSprites 34 = .ok (.istore 6, 2) := by decide +kernel
theorem dXD_takeSprites_36 : decode cXD_takeSprites 36 = .ok (.aload_n 0, 1) := by decide +kernel
theorem dXD_takeSprites_37 : decode cXD_takeSprites 37 = .ok (.iload 6, 2) := by decide +kernel
theorem dXD_takeSprites_39 : decode cXD_takeSprites 39 = .ok (.iload_n 1, 1) := by decide +kernel
theorem dXD_takeSprites_40 : decode cXD_takeSprites 40 = .ok (.invokevirtual 65, 3) := by decide +kernel
theorem dXD_takeSprites_43 : decode cXD_takeSprites 43 = .ok (.ifCond .eq 49, 3) := by decide +kernel
theorem dXD_takeSprites_46 : decode cXD_takeSprites 46 = .ok (.iload_n 3, 1) := by decide +kernel
theorem dXD_takeSprites_47 : decode cXD_takeSprites 47 = .ok (.iconst 3, 1) := by decide +kernel
theorem dXD_takeSprites_48 : decode cXD_takeSprites 48 = .ok (.if_icmp .ne 10, 3) := by decide +kernel
theorem dXD_takeSprites_51 : decode cXD_takeSprites 51 = .ok (.aload_n 0, 1) := by decide +kernel
theorem dXD_takeSprites_52 : decode cXD_takeSprites 52 = .ok (.iconst 1, 1) := by decide +kernel
theorem dXD_takeSprites_53 : decode cXD_takeSprites 53 = .ok (.putfield 69, 3) := by decide +kernel
theorem dXD_takeSprites_56 : decode cXD_takeSprites 56 = .ok (.iload_n 3, 1) := by decide +kernel
theorem dXD_takeSprites_57 : decode cXD_takeSprites 57 = .ok (.ireturn, 1) := by decide +kernel
theorem dXD_takeSprites_58 : decode cXD_takeSprites 58 = .ok (.iload_n 3, 1) := by decide +kernel
theorem dXD_takeSprites_59 : decode cXD_takeSprites 59 = .ok (.ifCond .le 22, 3) := by decide +kernel
theorem dXD_takeSprites_62 : decode cXD_takeSprites 62 = .ok (.aload_n 0, 1) := by decide +kernel
theorem dXD_takeSprites_63 : decode cXD_takeSprites 63 = .ok (.getfield 7, 3) := by decide +kernel
theorem dXD_takeSprites_66 : decode cXD_takeSprites 66 = .ok (.iload 6, 2) := by decide +kernel
theorem dXD_takeSprites_68 : decode cXD_takeSprites 68 = .ok (.iconst 3, 1) := by decide +kernel
theorem dXD_takeSprites_69 : decode cXD_takeSprites 69 = .ok (.iadd, 1) := by decide +kernel
theorem dXD_takeSprites_70 : decode cXD_takeSprites 70 = .ok (.invokevirtual 47, 3) := by decide +kernel
theorem dXD_takeSprites_73 : decode cXD_takeSprites 73 = .ok (.bipush 63, 2) := by decide +kernel
theorem dXD_takeSprites_75 : decode cXD_takeSprites 75 = .ok (.iand, 1) := by decide +kernel
theorem dXD_takeSprites_76 : decode cXD_takeSprites 76 = .ok (.ifCond .ne 5, 3) := by decide +kernel
theorem dXD_takeSprites_79 : decode cXD_takeSprites 79 = .ok (.iload_n 3, 1) := by decide +kernel
theorem dXD_takeSprites_80 : decode cXD_takeSprites 80 = .ok (.ireturn, 1) := by decide +kernel
theorem dXD_takeSprites_81 : decode cXD_takeSprites 81 = .ok (.aload_n 0, 1) := by decide +kernel
theorem dXD_takeSprites_82 : decode cXD_takeSprites 82 = .ok (.getfield 32, 3) := by decide +kernel
theorem dXD_takeSprites_85 : decode cXD_takeSprites 85 = .ok (.iload_n 3, 1) := by decide +kernel
theorem dXD_takeSprites_86 : decode cXD_takeSprites 86 = .ok (.iload 6, 2) := by decide +kernel
theorem dXD_takeSprites_88 : decode cXD_takeSprites 88 = .ok (.iastore, 1) := by decide +kernel
theorem dXD_takeSprites_89 : decode cXD_takeSprites 89 = .ok (.iinc 3 1, 3) := by decide +kernel
theorem dXD_takeSprites_92 : decode cXD_takeSprites 92 = .ok (.aload_n 0, 1) := by decide +kernel
theorem dXD_takeSprites_93 : decode cXD_takeSprites 93 = .ok (.getfield 7, 3) := by decide +kernel
theorem dXD_takeSprites_96 : decode cXD_takeSprites 96 = .ok (.iload 6, 2) := by decide +kernel
theorem dXD_takeSprites_98 : decode cXD_takeSprites 98 = .ok (.iconst 1, 1) := by decide +kernel
theorem dXD_takeSprites_99 : decode cXD_takeSprites 99 = .ok (.iadd, 1) := by decide +kernel
theorem dXD_takeSprites_100 : decode cXD_takeSprites 100 = .ok (.invokevirtual 47, 3) := by decide +kernel
theorem dXD_takeSprites_103 : decode cXD_takeSprites 103 = .ok (.bipush 7, 2) := by decide +kernel
theorem dXD_takeSprites_105 : decode cXD_takeSprites 105 = .ok (.iand, 1) := by decide +kernel
theorem dXD_takeSprites_106 : decode cXD_takeSprites 106 = .ok (.istore 4, 2) := by decide +kernel
theorem dXD_takeSprites_108 : decode cXD_takeSprites 108 = .ok (.iload 4, 2) := by decide +kernel
theorem dXD_takeSprites_110 : decode cXD_takeSprites 110 = .ok (.ifCond .ne 5, 3) := by decide +kernel
theorem dXD_takeSprites_113 : decode cXD_takeSprites 113 = .ok (.iload_n 3, 1) := by decide +kernel
theorem dXD_takeSprites_114 : decode cXD_takeSprites 114 = .ok (.ireturn, 1) := by decide +kernel
theorem dXD_takeSprites_115 : decode cXD_takeSprites 115 = .ok (.iinc 5 1, 3) := by decide +kernel
theorem dXD_takeSprites_118 : decode cXD_takeSprites 118 = .ok (.goto (-97), 3) := by decide +kernel
theorem dXD_takeSprites_121 : decode cXD_takeSprites 121 = .ok (.iload_n 3, 1) := by decide +kernel
theorem dXD_takeSprites_122 : decode cXD_takeSprites 122 = .ok (.ireturn, 1) := by decide +kernel
theorem dXD_isOnLine_0 : decode cXD_isOnLine 0 = .ok (.iload_n 2, 1) := by decide +kernel
theorem dXD_isOnLine_1 : decode cXD_isOnLine 1 = .ok (.bipush 16, 2) := by decide +kernel
theorem dXD_isOnLine_3 : decode cXD_isOnLine 3 = .ok (.iadd, 1) := by decide +kernel
theorem dXD_isOnLine_4 : decode cXD_isOnLine 4 = .ok (.aload_n 0, 1) := by decide +kernel
theorem dXD_isOnLine_5 : decode cXD_isOnLine 5 = .ok (.getfield 7, 3) := by decide +kernel
theorem dXD_isOnLine_8 : decode cXD_isOnLine 8 = .ok (.iload_n 1, 1) := by decide +kernel
theorem dXD_isOnLine_9 : decode cXD_isOnLine 9 = .ok (.invokevirtual 47, 3) := by decide +kernel
theorem dXD_isOnLine_12 : decode cXD_isOnLine 12 = .ok (.bipush 63, 2) := by decide +kernel
theorem dXD_isOnLine_14 : decode cXD_isOnLine 14 = .ok (.iand, 1) := by decide +kernel
theorem dXD_isOnLine_15 : decode cXD_isOnLine 15 = .ok (.isub, 1) := by decide +kernel
theorem dXD_isOnLine_16 : decode cXD_isOnLine 16 = .ok (.istore_n 3, 1) := by decide +kernel
theorem dXD_isOnLine_17 : decode cXD_isOnLine 17 = .ok (.iload_n 3, 1) := by decide +kernel
theorem dXD_isOnLine_18 : decode cXD_isOnLine 18 = .ok (.ifCond .lt 12, 3) := by decide +kernel
theorem dXD_isOnLine_21 : decode cXD_isOnLine 21 = .ok (.iload_n 3, 1) := by decide +kernel
theorem dXD_isOnLine_22 : decode cXD_isOnLine 22 = .ok (.iconst 4, 1) := by decide +kernel
theorem dXD_isOnLine_23 : decode cXD_isOnLine 23 = .ok (.if_icmp .ge 7, 3) := by decide +kernel
theorem dXD_isOnLine_26 : decode cXD_isOnLine 26 = .ok (.iconst 1, 1) := by decide +kernel
theorem dXD_isOnLine_27 : decode cXD_isOnLine 27 = .ok (.goto 4, 3) := by decide +kernel
theorem dXD_isOnLine_30 : decode cXD_isOnLine 30 = .ok (.iconst 0, 1) := by decide +kernel
theorem dXD_isOnLine_31 : decode cXD_isOnLine 31 = .ok (.ireturn, 1) := by decide +kernel
theorem dXD_drawSprite_0 : decode cXD_drawSprite 0 = .ok (.iload_n 2, 1) := by decide +kernel
theorem dXD_drawSprite_1 : decode cXD_drawSprite 1 = .ok (.bipush 16, 2) := by decide +kernel
theorem dXD_drawSprite_3 : decode cXD_drawSprite 3 = .ok (.iadd, 1) := by decide +kernel
theorem dXD_drawSprite_4 : decode cXD_drawSprite 4 = .ok (.aload_n 0, 1) := by decide +kernel
theorem dXD_drawSprite_5 : decode cXD_drawSprite 5 = .ok (.getfield 7, 3) := by decide +kernel
theorem dXD_drawSprite_8 : decode cXD_drawSprite 8 = .ok (.iload_n 1, 1) := by decide +kernel
theorem dXD_drawSprite_9 : decode cXD_drawSprite 9 = .ok (.invokevirtual 47, 3) := by decide +kernel
theorem dXD_drawSprite_12 : decode cXD_drawSprite 12 = .ok (.bipush 63, 2) := by decide +kernel
theorem dXD_drawSprite_14 : decode cXD_drawSprite 14 = .ok (.iand, 1) := by decide +kernel
theorem dXD_drawSprite_15 : decode cXD_drawSprite 15 = .ok (.isub, 1) := by decide +kernel
theorem dXD_drawSprite_16 : decode cXD_drawSprite 16 = .ok (.istore_n 3, 1) := by decide +kernel
theorem dXD_drawSprite_17 : decode cXD_drawSprite 17 = .ok (.aload_n 0, 1) := by decide +kernel
theorem dXD_drawSprite_18 : decode cXD_drawSprite 18 = .ok (.getfield 7, 3) := by decide +kernel
theorem dXD_drawSprite_21 : decode cXD_drawSprite 21 = .ok (.iload_n 1, 1) := by decide +kernel
theorem dXD_drawSprite_22 : decode cXD_drawSprite 22 = .ok (.iconst 2, 1) := by decide +kernel
theorem dXD_drawSprite_23 : decode cXD_drawSprite 23 = .ok (.iadd, 1) := by decide +kernel
theorem dXD_drawSprite_24 : decode cXD_drawSprite 24 = .ok (.invokevirtual 47, 3) := by decide +kernel
theorem dXD_drawSprite_27 : decode cXD_drawSprite 27 = .ok (.istore 4, 2) := by decide +kernel
theorem dXD_drawSprite_29 : decode cXD_drawSprite 29 = .ok (.aload_n 0, 1) := by decide +kernel
theorem dXD_drawSprite_30 : decode cXD_drawSprite 30 = .ok (.getfield 7, 3) := by decide +kernel
theorem dXD_drawSprite_33 : decode cXD_drawSprite 33 = .ok (.iload_n 1, 1) := by decide +kernel
theorem dXD_drawSprite_34 : decode cXD_drawSprite 34 = .ok (.iconst 3, 1) := by decide +kernel
theorem dXD_drawSprite_35 : decode cXD_drawSprite 35 = .ok (.iadd, 1) := by decide +kernel
theorem dXD_drawSprite_36 : decode cXD_drawSprite 36 = .ok (.invokevirtual 47, 3) := by decide +kernel
theorem dXD_drawSprite_39 : decode cXD_drawSprite 39 = .ok (.bipush 63, 2) := by decide +kernel
theorem dXD_drawSprite_41 : decode cXD_drawSprite 41 = .ok (.iand, 1) := by decide +kernel
theorem dXD_drawSprite_42 : decode cXD_drawSprite 42 = .ok (.bipush 16, 2) := by decide +kernel
theorem dXD_drawSprite_44 : decode cXD_drawSprite 44 = .ok (.isub, 1) := by decide +kernel
theorem dXD_drawSprite_45 : decode cXD_drawSprite 45 = .ok (.istore 5, 2) := by decide +kernel
theorem dXD_drawSprite_47 : decode cXD_drawSprite 47 = .ok (.iconst 0, 1) := by decide +kernel
theorem dXD_drawSprite_48 : decode cXD_drawSprite 48 = .ok (.istore 6, 2) := by decide +kernel
theorem dXD_drawSprite_50 : decode cXD_drawSprite 50 = .ok (.iload 6, 2) := by decide +kernel
theorem dXD_drawSprite_52 : decode cXD_drawSprite 52 = .ok (.iconst 4, 1) := by decide +kernel
theorem dXD_drawSprite_53 : decode cXD_drawSprite 53 = .ok (.if_icmp .ge 74, 3) := by decide +kernel
theorem dXD_drawSprite_56 : decode cXD_drawSprite 56 = .ok (.iload 5, 2) := by decide +kernel
theorem dXD_drawSprite_58 : decode cXD_drawSprite 58 = .ok (.iload 6, 2) := by decide +kernel
theorem dXD_drawSprite_60 : decode cXD_drawSprite 60 = .ok (.iadd, 1) := by decide +kernel
theorem dXD_drawSprite_61 : decode cXD_drawSprite 61 = .ok (.istore 7, 2) := by decide +kernel
theorem dXD_drawSprite_63 : decode cXD_drawSprite 63 = .ok (.aload_n 0, 1) := by decide +kernel
theorem dXD_drawSprite_64 : decode cXD_drawSprite 64 = .ok (.iload 4, 2) := by decide +kernel
theorem dXD_drawSprite_66 : decode cXD_drawSprite 66 = .ok (.iload 6, 2) := by decide +kernel
theorem dXD_drawSprite_68 : decode cXD_drawSprite 68 = .ok (.iload_n 3, 1) := by decide +kernel
theorem dXD_drawSprite_69 : decode cXD_drawSprite 69 = .ok (.invokevirtual 54, 3) := by decide +kernel
theorem dXD_drawSprite_72 : decode cXD_drawSprite 72 = .ok (.istore 8, 2) := by decide +kernel
theorem dXD_drawSprite_74 : decode cXD_drawSprite 74 = .ok (.iload 7, 2) := by decide +kernel
theorem dXD_drawSprite_76 : decode cXD_drawSprite 76 = .ok (.ifCond .lt 45, 3) := by decide +kernel
theorem dXD_drawSprite_79 : decode cXD_drawSprite 79 = .ok (.iload 7, 2) := by decide +kernel
theorem dXD_drawSprite_81 : decode cXD_drawSprite 81 = .ok (.bipush 16, 2) := by decide +kernel
theorem dXD_drawSprite_83 : decode cXD_drawSprite 83 = .ok (.if_icmp .ge 38, 3) := by decide +kernel
theorem dXD_drawSprite_86 : decode cXD_drawSprite 86 = .ok (.iload 8, 2) := by decide +kernel
theorem dXD_drawSprite_88 : decode cXD_drawSprite 88 = .ok (.ifCond .ne 6, 3) := by decide +kernel
theorem dXD_drawSprite_91 : decode cXD_drawSprite 91 = .ok (.goto 30, 3) := by decide +kernel
theorem dXD_drawSprite_94 : decode cXD_drawSprite 94 = .ok (.aload_n 0, 1) := by decide +kernel
theorem dXD_drawSprite_95 : decode cXD_drawSprite 95 = .ok (.getfield 29, 3) := by decide +kernel
theorem dXD_drawSprite_98 : decode cXD_drawSprite 98 = .ok (.iload 7, 2) := by decide +kernel
theorem dXD_drawSprite_100 : decode cXD_drawSprite 100 = .ok (.iaload, 1) := by decide +kernel
theorem dXD_drawSprite_101 : decode cXD_drawSprite 101 = .ok (.ifCond .ne 15, 3) := by decide +kernel
theorem dXD_drawSprite_104 : decode cXD_drawSprite 104 = .ok (.aload_n 0, 1) := by decide +kernel
theorem dXD_drawSprite_105 : decode cXD_drawSprite 105 = .ok (.getfield 29, 3) := by decide +kernel
theorem dXD_drawSprite_108 : decode cXD_drawSprite 108 = .ok (.iload 7, 2) := by decide +kernel
theorem dXD_drawSprite_110 : decode cXD_drawSprite 110 = .ok (.iload 8, 2) := by decide +kernel
theorem dXD_drawSprite_112 : decode cXD_drawSprite 112 = .ok (.iastore, 1) := by decide +kernel
theorem dXD_drawSprite_113 : decode cXD_drawSprite 113 = .ok (.goto 8, 3) := by decide +kernel
theorem dXD_drawSprite_116 : decode cXD_drawSprite 116 = .ok (.aload_n 0, 1) := by decide +kernel
theorem dXD_drawSprite_117 : decode cXD_drawSprite 117 = .ok (.iconst 1, 1) := by decide +kernel
theorem dXD_drawSprite_118 : decode cXD_drawSprite 118 = .ok (.putfield 73, 3) := by decide +kernel
theorem dXD_drawSprite_121 : decode cXD_drawSprite 121 = .ok (.iinc 6 1, 3) := by decide +kernel
theorem dXD_drawSprite_124 : decode cXD_drawSprite 124 = .ok (.goto (-74), 3) := by decide +kernel
theorem dXD_drawSprite_127 : decode cXD_drawSprite 127 = .ok (.return_, 1) := by decide +kernel
end
section
theorem dXM_init_0 : decode cXM_init 0 = .ok (.aload_n 0, 1) := by decide +kernel
theorem dXM_init_1 : decode cXM_init 1 = .ok (.invokespecial 1, 3) := by decide +kernel
theorem dXM_init_4 : decode cXM_init 4 = .ok (.aload_n 0, 1) := by decide +kernel
theorem dXM_init_5 : decode cXM_init 5 = .ok (.aload_n 1, 1) := by decide +kernel
theorem dXM_init_6 : decode cXM_init 6 = .ok (.putfield 7, 3) := by decide +kernel
theorem dXM_init_9 : decode cXM_init 9 = .ok (.aload_n 0, 1) := by decide +kernel
theorem dXM_init_10 : decode cXM_init 10 = .ok (.bipush 8, 2) := by decide +kernel
theorem dXM_init_12 : decode cXM_init 12 = .ok (.newarray .int, 2) := by decide +kernel
theorem dXM_init_14 : decode cXM_init 14 = .ok (.putfield 13, 3) := by decide +kernel
theorem dXM_init_17 : decode cXM_init 17 = .ok (.return_, 1) := by decide +kernel
theorem dXM_startAgain_0 : decode cXM_startAgain 0 = .ok (.iconst 0, 1) := by decide +kernel
theorem dXM_startAgain_1 : decode cXM_startAgain 1 = .ok (.istore_n 1, 1) := by decide +kernel
theorem dXM_startAgain_2 : decode cXM_startAgain 2 = .ok (.iload_n 1, 1) := by decide +kernel
theorem dXM_startAgain_3 : decode cXM_startAgain 3 = .ok (.aload_n 0, 1) := by decide +kernel
theorem dXM_startAgain_4 : decode cXM_startAgain 4 = .ok (.getfield 13, 3) := by decide +kernel
theorem dXM_startAgain_7 : decode cXM_startAgain 7 = .ok (.arraylength, 1) := by decide +kernel
theorem dXM_startAgain_8 : decode cXM_startAgain 8 = .ok (.if_icmp .ge 16, 3) := by decide +kernel
theorem dXM_startAgain_11 : decode cXM_startAgain 11 = .ok (.aload_n 0, 1) := by decide +kernel
theorem dXM_startAgain_12 : decode cXM_startAgain 12 = .ok (.getfield 13, 3) := by decide +kernel
theorem dXM_startAgain_15 : decode cXM_startAgain 15 = .ok (.iload_n 1, 1) := by decide +kernel
theorem dXM_startAgain_16 : decode cXM_startAgain 16 = .ok (.iconst 0, 1) := by decide +kernel
theorem dXM_startAgain_17 : decode cXM_startAgain 17 = .ok (.iastore, 1) := by decide +kernel
theorem dXM_startAgain_18 : decode cXM_startAgain 18 = .ok (.iinc 1 1, 3) := by decide +kernel
theorem dXM_startAgain_21 : decode cXM_startAgain 21 = .ok (.goto (-19), 3) := by decide +kernel
theorem dXM_startAgain_24 : decode cXM_startAgain 24 = .ok (.aload_n 0, 1) := by decide +kernel
theorem dXM_startAgain_25 : decode cXM_startAgain 25 = .ok (.sipush 1792, 3) := by decide +kernel
theorem dXM_startAgain_28 : decode cXM_startAgain 28 = .ok (.invokevirtual 17, 3) := by decide +kernel
theorem dXM_startAgain_31 : decode cXM_startAgain 31 = .ok (.aload_n 0, 1) := by decide +kernel
theorem dXM_startAgain_32 : decode cXM_startAgain 32 = .ok (.aload_n 0, 1) := by decide +kernel
theorem dXM_startAgain_33 : decode cXM_startAgain 33 = .ok (.getfield 7, 3) := by decide +kernel
theorem dXM_startAgain_36 : decode cXM_startAgain 36 = .ok (.iconst 2, 1) := by decide +kernel
theorem dXM_startAgain_37 : decode cXM_startAgain 37 = .ok (.invokevirtual 21, 3) := by decide +kernel
theorem dXM_startAgain_40 : decode cXM_startAgain 40 = .ok (.putfield 27, 3) := by decide +kernel
theorem dXM_startAgain_43 : decode cXM_startAgain 43 = .ok (.aload_n 0, 1) := by decide +kernel
theorem dXM_startAgain_44 : decode cXM_startAgain 44 = .ok (.aload_n 0, 1) := by decide +kernel
theorem dXM_startAgain_45 : decode cXM_startAgain 45 = .ok (.getfield 7, 3) := by decide +kernel
theorem dXM_startAgain_48 : decode cXM_startAgain 48 = .ok (.bipush 6, 2) := by decide +kernel
theorem dXM_startAgain_50 : decode cXM_startAgain 50 = .ok (.invokevirtual 21, 3) := by decide +kernel
theorem dXM_startAgain_53 : decode cXM_startAgain 53 = .ok (.putfield 31, 3) := by decide +kernel
theorem dXM_startAgain_56 : decode cXM_startAgain 56 = .ok (.aload_n 0, 1) := by decide +kernel
theorem dXM_startAgain_57 : decode cXM_startAgain 57 = .ok (.iconst 0, 1) := by decide +kernel
theorem dXM_startAgain_58 : decode cXM_startAgain 58 = .ok (.putfield 34, 3) := by decide +kernel
theorem dXM_startAgain_61 : decode cXM_startAgain 61 = .ok (.return_, 1) := by decide +kernel
theorem dXM_maskAndFlags_0 : decode cXM_maskAndFlags 0 = .ok (.aload_n 0, 1) := by decide +kernel
theorem dXM_maskAndFlags_1 : decode cXM_maskAndFlags 1 = .ok (.getfield 38, 3) := by decide +kernel
theorem dXM_maskAndFlags_4 : decode cXM_maskAndFlags 4 = .ok (.sipush 256, 3) := by decide +kernel
theorem dXM_maskAndFlags_7 : decode cXM_maskAndFlags 7 = .ok (.imul, 1) := by decide +kernel
theorem dXM_maskAndFlags_8 : decode cXM_maskAndFlags 8 = .ok (.aload_n 0, 1) := by decide +kernel
theorem dXM_maskAndFlags_9 : decode cXM_maskAndFlags 9 = .ok (.getfield 41, 3) := by decide +kernel
theorem dXM_maskAndFlags_12 : decode cXM_maskAndFlags 12 = .ok (.ifCond .eq 8, 3) := by decide +kernel
theorem dXM_maskAndFlags_15 : decode cXM_maskAndFlags 15 = .ok (.bipush 8, 2) := by decide +kernel
theorem dXM_maskAndFlags_17 : decode cXM_maskAndFlags 17 = .ok (.goto 4, 3) := by decide +kernel
theorem dXM_maskAndFlags_20 : decode cXM_maskAndFlags 20 = .ok (.iconst 0, 1) := by decide +kernel
theorem dXM_maskAndFlags_21 : decode cXM_maskAndFlags 21 = .ok (.iadd, 1) := by decide +kernel
theorem dXM_maskAndFlags_22 : decode cXM_maskAndFlags 22 = .ok (.aload_n 0, 1) := by decide +kernel
theorem dXM_maskAndFlags_23 : decode cXM_maskAndFlags 23 = .ok (.getfield 44, 3) := by decide +kernel
theorem dXM_maskAndFlags_26 : decode cXM_maskAndFlags 26 = .ok (.ifCond .eq 7, 3) := by decide +kernel
theorem dXM_maskAndFlags_29 : decode cXM_maskAndFlags 29 = .ok (.iconst 4, 1) := by decide +kernel
theorem dXM_maskAndFlags_30 : decode cXM_maskAndFlags 30 = .ok (.goto 4, 3) := by decide +kernel
theorem dXM_maskAndFlags_33 : decode cXM_maskAndFlags 33 = .ok (.iconst 0, 1) := by decide +kernel
theorem dXM_maskAndFlags_34 : decode cXM_maskAndFlags 34 = .ok (.iadd, 1) := by decide +kernel
theorem dXM_maskAndFlags_35 : decode cXM_maskAndFlags 35 = .ok (.aload_n 0, 1) := by decide +kernel
theorem dXM_maskAndFlags_36 : decode cXM_maskAndFlags 36 = .ok (.getfield 47, 3) := by decide +kernel
theorem dXM_maskAndFlags_39 : decode cXM_maskAndFlags 39 = .ok (.ifCond .eq 7, 3) := by decide +kernel
theorem dXM_maskAndFlags_42 : decode cXM_maskAndFlags 42 = .ok (.iconst 2, 1) := by decide +kernel
theorem dXM_maskAndFlags_43 : decode cXM_maskAndFlags 43 = .ok (.goto 4, 3) := by decide +kernel
theorem dXM_maskAndFlags_46 : decode cXM_maskAndFlags 46 = .ok (.iconst 0, 1) := by decide +kernel
theorem dXM_maskAndFlags_47 : decode cXM_maskAndFlags 47 = .ok (.iadd, 1) := by decide +kernel
theorem dXM_maskAndFlags_48 : decode cXM_maskAndFlags 48 = .ok (.aload_n 0, 1) := by decide +kernel
theorem dXM_maskAndFlags_49 : decode cXM_maskAndFlags 49 = .ok (.getfield 50, 3) := by decide +kernel
theorem dXM_maskAndFlags_52 : decode cXM_maskAndFlags 52 = .ok (.ifCond .eq 7, 3) := by decide +kernel
theorem dXM_maskAndFlags_55 : decode cXM_maskAndFlags 55 = .ok (.iconst 1, 1) := by decide +kernel
theorem dXM_maskAndFlags_56 : decode cXM_maskAndFlags 56 = .ok (.goto 4, 3) := by decide +kernel
theorem dXM_maskAndFlags_59 : decode cXM_maskAndFlags 59 = .ok (.iconst 0, 1) := by decide +kernel
theorem dXM_maskAndFlags_60 : decode cXM_maskAndFlags 60 = .ok (.iadd, 1) := by decide +kernel
theorem dXM_maskAndFlags_61 : decode cXM_maskAndFlags 61 = .ok (.ireturn, 1) := by decide +kernel
theorem dXM_interrupt_0 : decode cXM_interrupt 0 = .ok (.aload_n 0, 1) := by decide +kernel
theorem dXM_interrupt_1 : decode cXM_interrupt 1 = .ok (.bipush 24, 2) := by decide +kernel
theorem dXM_interrupt_3 : decode cXM_interrupt 3 = .ok (.iload_n 1, 1) := by decide +kernel
theorem dXM_interrupt_4 : decode cXM_interrupt 4 = .ok (.iadd, 1) := by decide +kernel
theorem dXM_interrupt_5 : decode cXM_interrupt 5 = .ok (.invokevirtual 53, 3) := by decide +kernel
theorem dXM_interrupt_8 : decode cXM_interrupt 8 = .ok (.aload_n 0, 1) := by decide +kernel
theorem dXM_interrupt_9 : decode cXM_interrupt 9 = .ok (.iload_n 1, 1) := by decide +kernel
theorem dXM_interrupt_10 : decode cXM_interrupt 10 = .ok (.putfield 38, 3) := by decide +kernel
theorem dXM_interrupt_13 : decode cXM_interrupt 13 = .ok (.aload_n 0, 1) := by decide +kernel
theorem dXM_interrupt_14 : decode cXM_interrupt 14 = .ok (.iconst 0, 1) := by decide +kernel
theorem dXM_interrupt_15 : decode cXM_interrupt 15 = .ok (.putfield 34, 3) := by decide +kernel
theorem dXM_interrupt_18 : decode cXM_interrupt 18 = .ok (.bipush 44, 2) := by decide +kernel
theorem dXM_interrupt_20 : decode cXM_interrupt 20 = .ok (.ireturn, 1) := by decide +kernel
theorem dXM_instruct_0 : decode cXM_instruct 0 = .ok (.aload_n 0, 1) := by decide +kernel
theorem dXM_instruct_1 : decode cXM_instruct 1 = .ok (.getfield 31, 3) := by decide +kernel
theorem dXM_instruct_4 : decode cXM_instruct 4 = .ok (.istore_n 1, 1) := by decide +kernel
theorem dXM_instruct_5 : decode cXM_instruct 5 = .ok (.aload_n 0, 1) := by decide +kernel
theorem dXM_instruct_6 : decode cXM_instruct 6 = .ok (.invokevirtual 56, 3) := by decide +kernel
theorem dXM_instruct_9 : decode cXM_instruct 9 = .ok (.istore_n 2, 1) := by decide +kernel
theorem dXM_instruct_10 : decode cXM_instruct 10 = .ok (.iconst 0, 1) := by decide +kernel
theorem dXM_instruct_11 : decode cXM_instruct 11 = .ok (.istore_n 3, 1) := by decide +kernel
theorem dXM_instruct_12 : decode cXM_instruct 12 = .ok (.iload_n 2, 1) := by decide +kernel
theorem dXM_instruct_13 : decode cXM_instruct 13 = .ok (.bipush 12, 2) := by decide +kernel
theorem dXM_instruct_15 : decode cXM_instruct 15 = .ok (.ishr, 1) := by decide +kernel
theorem dXM_instruct_16 : decode cXM_instruct 16 = .ok (.tableswitch 114 3 13 #[60, 69, 114, 78, 87, 114, 114, 114, 96, 114, 105], 60) := by decide +kernel
theorem dXM_instruct_76 : decode cXM_instruct 76 = .ok (.aload_n 0, 1) := by decide +kernel
theorem dXM_instruct_77 : decode cXM_instruct 77 = .ok (.iload_n 2, 1) := by decide +kernel
theorem dXM_instruct_78 : decode cXM_instruct 78 = .ok (.invokevirtual 60, 3) := by decide +kernel
theorem dXM_instruct_81 : decode cXM_instruct 81 = .ok (.istore_n 3, 1) := by decide +kernel
theorem dXM_instruct_82 : decode cXM_instruct 82 = .ok (.goto 48, 3) := by decide +kernel
theorem dXM_instruct_85 : decode cXM_instruct 85 = .ok (.aload_n 0, 1) := by decide +kernel
theorem dXM_instruct_86 : decode cXM_instruct 86 = .ok (.iload_n 2, 1) := by decide +kernel
theorem dXM_instruct_87 : decode cXM_instruct 87 = .ok (.invokevirtual 63, 3) := by decide +kernel
theorem dXM_instruct_90 : decode cXM_instruct 90 = .ok (.istore_n 3, 1) := by decide +kernel
theorem dXM_instruct_91 : decode cXM_instruct 91 = .ok (.goto 39, 3) := by decide +kernel
theorem dXM_instruct_94 : decode cXM_instruct 94 = .ok (.aload_n 0, 1) := by decide +kernel
theorem dXM_instruct_95 : decode cXM_instruct 95 = .ok (.iload_n 2, 1) := by decide +kernel
theorem dXM_instruct_96 : decode cXM_instruct 96 = .ok (.invokevirtual 66, 3) := by decide +kernel
theorem dXM_instruct_99 : decode cXM_instruct 99 = .ok (.istore_n 3, 1) := by decide +kernel
theorem dXM_instruct_100 : decode cXM_instruct 100 = .ok (.goto 30, 3) := by decide +kernel
theorem dXM_instruct_103 : decode cXM_instruct 103 = .ok (.aload_n 0, 1) := by decide +kernel
theorem dXM_instruct_104 : decode cXM_instruct 104 = .ok (.iload_n 2, 1) := by decide +kernel
theorem dXM_instruct_105 : decode cXM_instruct 105 = .ok (.invokevirtual 69, 3) := by decide +kernel
theorem dXM_instruct_108 : decode cXM_instruct 108 = .ok (.istore_n 3, 1) := by decide +kernel
theorem dXM_instruct_109 : decode cXM_instruct 109 = .ok (.goto 21, 3) := by decide +kernel
theorem dXM_instruct_112 : decode cXM_instruct 112 = .ok (.aload_n 0, 1) := by decide +kernel
theorem dXM_instruct_113 : decode cXM_instruct 113 = .ok (.iload_n 2, 1) := by decide +kernel
theorem dXM_instruct_114 : decode cXM_instruct 114 = .ok (.invokevirtual 72, 3) := by decide +kernel
theorem dXM_instruct_117 : decode cXM_instruct 117 = .ok (.istore_n 3, 1) := by decide +kernel
theorem dXM_instruct_118 : decode cXM_instruct 118 = .ok (.goto 12, 3) := by decide +kernel
theorem dXM_instruct_121 : decode cXM_instruct 121 = .ok (.aload_n 0, 1) := by decide +kernel
theorem dXM_instruct_122 : decode cXM_instruct 122 = .ok (.iload_n 2, 1) := by decide +kernel
theorem dXM_instruct_123 : decode cXM_instruct 123 = .ok (.invokevirtual 75, 3) := by decide +kernel
theorem dXM_instruct_126 : decode cXM_instruct 126 = .ok (.istore_n 3, 1) := by decide +kernel
theorem dXM_instruct_127 : decode cXM_instruct 127 = .ok (.goto 3, 3) := by decide +kernel
theorem dXM_instruct_130 : decode cXM_instruct 130 = .ok (.iload_n 3, 1) := by decide +kernel
theorem dXM_instruct_131 : decode cXM_instruct 131 = .ok (.ifCond .ne 16, 3) := by decide +kernel
theorem dXM_instruct_134 : decode cXM_instruct 134 = .ok (.aload_n 0, 1) := by decide +kernel
theorem dXM_instruct_135 : decode cXM_instruct 135 = .ok (.iload_n 1, 1) := by decide +kernel
theorem dXM_instruct_136 : decode cXM_instruct 136 = .ok (.putfield 31, 3) := by decide +kernel
theorem dXM_instruct_139 : decode cXM_instruct 139 = .ok (.aload_n 0, 1) := by decide +kernel
theorem dXM_instruct_140 : decode cXM_instruct 140 = .ok (.iconst 4, 1) := by decide +kernel
theorem dXM_instruct_141 : decode cXM_instruct 141 = .ok (.invokevirtual 53, 3) := by decide +kernel
theorem dXM_instruct_144 : decode cXM_instruct 144 = .ok (.bipush 34, 2) := by decide +kernel
theorem dXM_instruct_146 : decode cXM_instruct 146 = .ok (.istore_n 3, 1) := by decide +kernel
theorem dXM_instruct_147 : decode cXM_instruct 147 = .ok (.iload_n 3, 1) := by decide +kernel
theorem dXM_instruct_148 : decode cXM_instruct 148 = .ok (.ireturn, 1) := by decide +kernel
theorem dXM_setMaskAndFlags_0 : decode cXM_setMaskAndFlags 0 = .ok (.aload_n 0, 1) := by decide +kernel
theorem dXM_setMaskAndFlags_1 : decode cXM_setMaskAndFlags 1 = .ok (.iload_n 1, 1) := by decide +kernel
theorem dXM_setMaskAndFlags_2 : decode cXM_setMaskAndFlags 2 = .ok (.bipush 8, 2) := by decide +kernel
theorem dXM_setMaskAndFlags_4 : decode cXM_setMaskAndFlags 4 = .ok (.ishr, 1) := by decide +kernel
theorem dXM_setMaskAndFlags_5 : decode cXM_setMaskAndFlags 5 = .ok (.bipush 7, 2) := by decide +kernel
theorem dXM_setMaskAndFlags_7 : decode cXM_setMaskAndFlags 7 = .ok (.iand, 1) := by decide +kernel
theorem dXM_setMaskAndFlags_8 : decode cXM_setMaskAndFlags 8 = .ok (.putfield 38, 3) := by decide +kernel
theorem dXM_setMaskAndFlags_11 : decode cXM_setMaskAndFlags 11 = .ok (.aload_n 0, 1) := by decide +kernel
theorem dXM_setMaskAndFlags_12 : decode cXM_setMaskAndFlags 12 = .ok (.iload_n 1, 1) := by decide +kernel
theorem dXM_setMaskAndFlags_13 : decode cXM_setMaskAndFlags 13 = .ok (.bipush 8, 2) := by decide +kernel
theorem dXM_setMaskAndFlags_15 : decode cXM_setMaskAndFlags 15 = .ok (.iand, 1) := by decide +kernel
theorem dXM_setMaskAndFlags_16 : decode cXM_setMaskAndFlags 16 = .ok (.ifCond .eq 7, 3) := by decide +kernel
theorem dXM_setMaskAndFlags_19 : decode cXM_setMaskAndFlags 19 = .ok (.iconst 1, 1) := by decide +kernel
theorem dXM_setMaskAndFlags_20 : decode cXM_setMaskAndFlags 20 = .ok (.goto 4, 3) := by decide +kernel
theorem dXM_setMaskAndFlags_23 : decode cXM_setMaskAndFlags 23 = .ok (.iconst 0, 1) := by decide +kernel
theorem dXM_setMaskAndFlags_24 : decode cXM_setMaskAndFlags 24 = .ok (.putfield 41, 3) := by decide +kernel
theorem dXM_setMaskAndFlags_27 : decode cXM_setMaskAndFlags 27 = .ok (.aload_n 0, 1) := by decide +kernel
theorem dXM_setMaskAndFlags_28 : decode cXM_setMaskAndFlags 28 = .ok (.iload_n 1, 1) := by decide +kernel
theorem dXM_setMaskAndFlags_29 : decode cXM_setMaskAndFlags 29 = .ok (.iconst 4, 1) := by decide +kernel
theorem dXM_setMaskAndFlags_30 : decode cXM_setMaskAndFlags 30 = .ok (.iand, 1) := by decide +kernel
theorem dXM_setMaskAndFlags_31 : decode cXM_setMaskAndFlags 31 = .ok (.ifCond .eq 7, 3) := by decide +kernel
theorem dXM_setMaskAndFlags_34 : decode cXM_setMaskAndFlags 34 = .ok (.iconst 1, 1) := by decide +kernel
theorem dXM_setMaskAndFlags_35 : decode cXM_setMaskAndFlags 35 = .ok (.goto 4, 3) := by decide +kernel
theorem dXM_setMaskAndFlags_38 : decode cXM_setMaskAndFlags 38 = .ok (.iconst 0, 1) := by decide +kernel
theorem dXM_setMaskAndFlags_39 : decode cXM_setMaskAndFlags 39 = .ok (.putfield 44, 3) := by decide +kernel
theorem dXM_setMaskAndFlags_42 : decode cXM_setMaskAndFlags 42 = .ok (.aload_n 0, 1) := by decide +kernel
theorem dXM_setMaskAndFlags_43 : decode cXM_setMaskAndFlags 43 = .ok (.iload_n 1, 1) := by decide +kernel
theorem dXM_setMaskAndFlags_44 : decode cXM_setMaskAndFlags 44 = .ok (.iconst 2, 1) := by decide +kernel
theorem dXM_setMaskAndFlags_45 : decode cXM_setMaskAndFlags 45 = .ok (.iand, 1) := by decide +kernel
theorem dXM_setMaskAndFlags_46 : decode cXM_setMaskAndFlags 46 = .ok (.ifCond .eq 7, 3) := by decide +kernel
theorem dXM_setMaskAndFlags_49 : decode cXM_setMaskAndFlags 49 = .ok (.iconst 1, 1) := by decide +kernel
theorem dXM_setMaskAndFlags_50 : decode cXM_setMaskAndFlags 50 = .ok (.goto 4, 3) := by decide +kernel
theorem dXM_setMaskAndFlags_53 : decode cXM_setMaskAndFlags 53 = .ok (.iconst 0, 1) := by decide +kernel
theorem dXM_setMaskAndFlags_54 : decode cXM_setMaskAndFlags 54 = .ok (.putfield 47, 3) := by decide +kernel
theorem dXM_setMaskAndFlags_57 : decode cXM_setMaskAndFlags 57 = .ok (.aload_n 0, 1) := by decide +kernel
theorem dXM_setMaskAndFlags_58 : decode cXM_setMaskAndFlags 58 = .ok (.iload_n 1, 1) := by decide +kernel
theorem dXM_setMaskAndFlags_59 : decode cXM_setMaskAndFlags 59 = .ok (.iconst 1, 1) := by decide +kernel
theorem dXM_setMaskAndFlags_60 : decode cXM_setMaskAndFlags 60 = .ok (.iand, 1) := by decide +kernel
theorem dXM_setMaskAndFlags_61 : decode cXM_setMaskAndFlags 61 = .ok (.ifCond .eq 7, 3) := by decide +kernel
theorem dXM_setMaskAndFlags_64 : decode cXM_setMaskAndFlags 64 = .ok (.iconst 1, 1) := by decide +kernel
theorem dXM_setMaskAndFlags_65 : decode cXM_setMaskAndFlags 65 = .ok (.goto 4, 3) := by decide +kernel
theorem dXM_setMaskAndFlags_68 : decode cXM_setMaskAndFlags 68 = .ok (.iconst 0, 1) := by decide +kernel
theorem dXM_setMaskAndFlags_69 : decode cXM_setMaskAndFlags 69 = .ok (.putfield 50, 3) := by decide +kernel
theorem dXM_setMaskAndFlags_72 : decode cXM_setMaskAndFlags 72 = .ok (.return_, 1) := by decide +kernel
theorem dXM_raise_0 : decode cXM_raise 0 = .ok (.aload_n 0, 1) := by decide +kernel
theorem dXM_raise_1 : decode cXM_raise 1 = .ok (.getfield 7, 3) := by decide +kernel
theorem dXM_raise_4 : decode cXM_raise 4 = .ok (.aload_n 0, 1) := by decide +kernel
theorem dXM_raise_5 : decode cXM_raise 5 = .ok (.getfield 27, 3) := by decide +kernel
theorem dXM_raise_8 : decode cXM_raise 8 = .ok (.bipush 6, 2) := by decide +kernel
theorem dXM_raise_10 : decode cXM_raise 10 = .ok (.isub, 1) := by decide +kernel
theorem dXM_raise_11 : decode cXM_raise 11 = .ok (.ldc 78, 2) := by decide +kernel
theorem dXM_raise_13 : decode cXM_raise 13 = .ok (.iand, 1) := by decide +kernel
theorem dXM_raise_14 : decode cXM_raise 14 = .ok (.aload_n 0, 1) := by decide +kernel
theorem dXM_raise_15 : decode cXM_raise 15 = .ok (.invokevirtual 79, 3) := by decide +kernel
theorem dXM_raise_18 : decode cXM_raise 18 = .ok (.invokevirtual 82, 3) := by decide +kernel
theorem dXM_raise_21 : decode cXM_raise 21 = .ok (.aload_n 0, 1) := by decide +kernel
theorem dXM_raise_22 : decode cXM_raise 22 = .ok (.getfield 7, 3) := by decide +kernel
theorem dXM_raise_25 : decode cXM_raise 25 = .ok (.aload_n 0, 1) := by decide +kernel
theorem dXM_raise_26 : decode cXM_raise 26 = .ok (.getfield 27, 3) := by decide +kernel
theorem dXM_raise_29 : decode cXM_raise 29 = .ok (.iconst 4, 1) := by decide +kernel
theorem dXM_raise_30 : decode cXM_raise 30 = .ok (.isub, 1) := by decide +kernel
theorem dXM_raise_31 : decode cXM_raise 31 = .ok (.ldc 78, 2) := by decide +kernel
theorem dXM_raise_33 : decode cXM_raise 33 = .ok (.iand, 1) := by decide +kernel
theorem dXM_raise_34 : decode cXM_raise 34 = .ok (.iconst 0, 1) := by decide +kernel
theorem dXM_raise_35 : decode cXM_raise 35 = .ok (.invokevirtual 82, 3) := by decide +kernel
theorem dXM_raise_38 : decode cXM_raise 38 = .ok (.aload_n 0, 1) := by decide +kernel
theorem dXM_raise_39 : decode cXM_raise 39 = .ok (.getfield 7, 3) := by decide +kernel
theorem dXM_raise_42 : decode cXM_raise 42 = .ok (.aload_n 0, 1) := by decide +kernel
theorem dXM_raise_43 : decode cXM_raise 43 = .ok (.getfield 27, 3) := by decide +kernel
theorem dXM_raise_46 : decode cXM_raise 46 = .ok (.iconst 2, 1) := by decide +kernel
theorem dXM_raise_47 : decode cXM_raise 47 = .ok (.isub, 1) := by decide +kernel
theorem dXM_raise_48 : decode cXM_raise 48 = .ok (.ldc 78, 2) := by decide +kernel
theorem dXM_raise_50 : decode cXM_raise 50 = .ok (.iand, 1) := by decide +kernel
theorem dXM_raise_51 : decode cXM_raise 51 = .ok (.aload_n 0, 1) := by decide +kernel
theorem dXM_raise_52 : decode cXM_raise 52 = .ok (.getfield 31, 3) := by decide +kernel
theorem dXM_raise_55 : decode cXM_raise 55 = .ok (.invokevirtual 82, 3) := by decide +kernel
theorem dXM_raise_58 : decode cXM_raise 58 = .ok (.aload_n 0, 1) := by decide +kernel
theorem dXM_raise_59 : decode cXM_raise 59 = .ok (.aload_n 0, 1) := by decide +kernel
theorem dXM_raise_60 : decode cXM_raise 60 = .ok (.getfield 27, 3) := by decide +kernel
theorem dXM_raise_63 : decode cXM_raise 63 = .ok (.bipush 6, 2) := by decide +kernel
theorem dXM_raise_65 : decode cXM_raise 65 = .ok (.isub, 1) := by decide +kernel
theorem dXM_raise_66 : decode cXM_raise 66 = .ok (.ldc 78, 2) := by decide +kernel
theorem dXM_raise_68 : decode cXM_raise 68 = .ok (.iand, 1) := by decide +kernel
theorem dXM_raise_69 : decode cXM_raise 69 = .ok (.putfield 27, 3) := by decide +kernel
theorem dXM_raise_72 : decode cXM_raise 72 = .ok (.aload_n 0, 1) := by decide +kernel
theorem dXM_raise_73 : decode cXM_raise 73 = .ok (.aload_n 0, 1) := by decide +kernel
theorem dXM_raise_74 : decode cXM_raise 74 = .ok (.getfield 7, 3) := by decide +kernel
theorem dXM_raise_77 : decode cXM_raise 77 = .ok (.iconst 4, 1) := by decide +kernel
theorem dXM_raise_78 : decode cXM_raise 78 = .ok (.iload_n 1, 1) := by decide +kernel
theorem dXM_raise_79 : decode cXM_raise 79 = .ok (.imul, 1) := by decide +kernel
theorem dXM_raise_80 : decode cXM_raise 80 = .ok (.iconst 2, 1) := by decide +kernel
theorem dXM_raise_81 : decode cXM_raise 81 = .ok (.iadd, 1) := by decide +kernel
theorem dXM_raise_82 : decode cXM_raise 82 = .ok (.invokevirtual 21, 3) := by decide +kernel
theorem dXM_raise_85 : decode cXM_raise 85 = .ok (.putfield 31, 3) := by decide +kernel
theorem dXM_raise_88 : decode cXM_raise 88 = .ok (.return_, 1) := by decide +kernel
theorem dXM_nextWord_0 : decode cXM_nextWord 0 = .ok (.aload_n 0, 1) := by decide +kernel
theorem dXM_nextWord_1 : decode cXM_nextWord 1 = .ok (.getfield 7, 3) := by decide +kernel
theorem dXM_nextWord_4 : decode cXM_nextWord 4 = .ok (.aload_n 0, 1) := by decide +kernel
theorem dXM_nextWord_5 : decode cXM_nextWord 5 = .ok (.getfield 31, 3) := by decide +kernel
theorem dXM_nextWord_8 : decode cXM_nextWord 8 = .ok (.invokevirtual 21, 3) := by decide +kernel
theorem dXM_nextWord_11 : decode cXM_nextWord 11 = .ok (.istore_n 1, 1) := by decide +kernel
theorem dXM_nextWord_12 : decode cXM_nextWord 12 = .ok (.aload_n 0, 1) := by decide +kernel
theorem dXM_nextWord_13 : decode cXM_nextWord 13 = .ok (.aload_n 0, 1) := by decide +kernel
theorem dXM_nextWord_14 : decode cXM_nextWord 14 = .ok (.getfield 31, 3) := by decide +kernel
theorem dXM_nextWord_17 : decode cXM_nextWord 17 = .ok (.iconst 2, 1) := by decide +kernel
theorem dXM_nextWord_18 : decode cXM_nextWord 18 = .ok (.iadd, 1) := by decide +kernel
theorem dXM_nextWord_19 : decode cXM_nextWord 19 = .ok (.ldc 78, 2) := by decide +kernel
theorem dXM_nextWord_21 : decode cXM_nextWord 21 = .ok (.iand, 1) := by decide +kernel
theorem dXM_nextWord_22 : decode cXM_nextWord 22 = .ok (.putfield 31, 3) := by decide +kernel
theorem dXM_nextWord_25 : decode cXM_nextWord 25 = .ok (.iload_n 1, 1) := by decide +kernel
theorem dXM_nextWord_26 : decode cXM_nextWord 26 = .ok (.ireturn, 1) := by decide +kernel
theorem dXM_setMoveFlags_0 : decode cXM_setMoveFlags 0 = .ok (.aload_n 0, 1) := by decide +kernel
theorem dXM_setMoveFlags_1 : decode cXM_setMoveFlags 1 = .ok (.iload_n 1, 1) := by decide +kernel
theorem dXM_setMoveFlags_2 : decode cXM_setMoveFlags 2 = .ok (.ifCond .ge 7, 3) := by decide +kernel
theorem dXM_setMoveFlags_5 : decode cXM_setMoveFlags 5 = .ok (.iconst 1, 1) := by decide +kernel
theorem dXM_setMoveFlags_6 : decode cXM_setMoveFlags 6 = .ok (.goto 4, 3) := by decide +kernel
theorem dXM_setMoveFlags_9 : decode cXM_setMoveFlags 9 = .ok (.iconst 0, 1) := by decide +kernel
theorem dXM_setMoveFlags_10 : decode cXM_setMoveFlags 10 = .ok (.putfield 41, 3) := by decide +kernel
theorem dXM_setMoveFlags_13 : decode cXM_setMoveFlags 13 = .ok (.aload_n 0, 1) := by decide +kernel
theorem dXM_setMoveFlags_14 : decode cXM_setMoveFlags 14 = .ok (.iload_n 1, 1) := by decide +kernel
theorem dXM_setMoveFlags_15 : decode cXM_setMoveFlags 15 = .ok (.ifCond .ne 7, 3) := by decide +kernel
theorem dXM_setMoveFlags_18 : decode cXM_setMoveFlags 18 = .ok (.iconst 1, 1) := by decide +kernel
theorem dXM_setMoveFlags_19 : decode cXM_setMoveFlags 19 = .ok (.goto 4, 3) := by decide +kernel
theorem dXM_setMoveFlags_22 : decode cXM_setMoveFlags 22 = .ok (.iconst 0, 1) := by decide +kernel
theorem dXM_setMoveFlags_23 : decode cXM_setMoveFlags 23 = .ok (.putfield 44, 3) := by decide +kernel
theorem dXM_setMoveFlags_26 : decode cXM_setMoveFlags 26 = .ok (.aload_n 0, 1) := by decide +kernel
theorem dXM_setMoveFlags_27 : decode cXM_setMoveFlags 27 = .ok (.iconst 0, 1) := by decide +kernel
theorem dXM_setMoveFlags_28 : decode cXM_setMoveFlags 28 = .ok (.putfield 47, 3) := by decide +kernel
theorem dXM_setMoveFlags_31 : decode cXM_setMoveFlags 31 = .ok (.aload_n 0, 1) := by decide +kernel
theorem dXM_setMoveFlags_32 : decode cXM_setMoveFlags 32 = .ok (.iconst 0, 1) := by decide +kernel
theorem dXM_setMoveFlags_33 : decode cXM_setMoveFlags 33 = .ok (.putfield 50, 3) := by decide +kernel
theorem dXM_setMoveFlags_36 : decode cXM_setMoveFlags 36 = .ok (.return_, 1) := by decide +kernel
theorem dXM_setReckonedFlags_0 : decode cXM_setReckonedFlags 0 = .ok (.aload_n 0, 1) := by decide +kernel
theorem dXM_setReckonedFlags_1 : decode cXM_setReckonedFlags 1 = .ok (.iload_n 1, 1) := by decide +kernel
theorem dXM_setReckonedFlags_2 : decode cXM_setReckonedFlags 2 = .ok (.i2s, 1) := by decide +kernel
theorem dXM_setReckonedFlags_3 : decode cXM_setReckonedFlags 3 = .ok (.invokevirtual 86, 3) := by decide +kernel
theorem dXM_setReckonedFlags_6 : decode cXM_setReckonedFlags 6 = .ok (.aload_n 0, 1) := by decide +kernel
theorem dXM_setReckonedFlags_7 : decode cXM_setReckonedFlags 7 = .ok (.iload_n 1, 1) := by decide +kernel
theorem dXM_setReckonedFlags_8 : decode cXM_setReckonedFlags 8 = .ok (.iload_n 1, 1) := by decide +kernel
theorem dXM_setReckonedFlags_9 : decode cXM_setReckonedFlags 9 = .ok (.i2s, 1) := by decide +kernel
theorem dXM_setReckonedFlags_10 : decode cXM_setReckonedFlags 10 = .ok (.if_icmp .eq 7, 3) := by decide +kernel
theorem dXM_setReckonedFlags_13 : decode cXM_setReckonedFlags 13 = .ok (.iconst 1, 1) := by decide +kernel
theorem dXM_setReckonedFlags_14 : decode cXM_setReckonedFlags 14 = .ok (.goto 4, 3) := by decide +kernel
theorem dXM_setReckonedFlags_17 : decode cXM_setReckonedFlags 17 = .ok (.iconst 0, 1) := by decide +kernel
theorem dXM_setReckonedFlags_18 : decode cXM_setReckonedFlags 18 = .ok (.putfield 47, 3) := by decide +kernel
theorem dXM_setReckonedFlags_21 : decode cXM_setReckonedFlags 21 = .ok (.aload_n 0, 1) := by decide +kernel
theorem dXM_setReckonedFlags_22 : decode cXM_setReckonedFlags 22 = .ok (.iload_n 2, 1) := by decide +kernel
theorem dXM_setReckonedFlags_23 : decode cXM_setReckonedFlags 23 = .ok (.putfield 50, 3) := by decide +kernel
theorem dXM_setReckonedFlags_26 : decode cXM_setReckonedFlags 26 = .ok (.return_, 1) := by decide +kernel
theorem dXM_setLowWord_0 : decode cXM_setLowWord 0 = .ok (.aload_n 0, 1) := by decide +kernel
theorem dXM_setLowWord_1 : decode cXM_setLowWord 1 = .ok (.getfield 13, 3) := by decide +kernel
theorem dXM_setLowWord_4 : decode cXM_setLowWord 4 = .ok (.iload_n 1, 1) := by decide +kernel
theorem dXM_setLowWord_5 : decode cXM_setLowWord 5 = .ok (.aload_n 0, 1) := by decide +kernel
theorem dXM_setLowWord_6 : decode cXM_setLowWord 6 = .ok (.getfield 13, 3) := by decide +kernel
theorem dXM_setLowWord_9 : decode cXM_setLowWord 9 = .ok (.iload_n 1, 1) := by decide +kernel
theorem dXM_setLowWord_10 : decode cXM_setLowWord 10 = .ok (.iaload, 1) := by decide +kernel
theorem dXM_setLowWord_11 : decode cXM_setLowWord 11 = .ok (.ldc 89, 2) := by decide +kernel
theorem dXM_setLowWord_13 : decode cXM_setLowWord 13 = .ok (.iand, 1) := by decide +kernel
theorem dXM_setLowWord_14 : decode cXM_setLowWord 14 = .ok (.iload_n 2, 1) := by decide +kernel
theorem dXM_setLowWord_15 : decode cXM_setLowWord 15 = .ok (.ldc 78, 2) := by decide +kernel
theorem dXM_setLowWord_17 : decode cXM_setLowWord 17 = .ok (.iand, 1) := by decide +kernel
theorem dXM_setLowWord_18 : decode cXM_setLowWord 18 = .ok (.ior, 1) := by decide +kernel
theorem dXM_setLowWord_19 : decode cXM_setLowWord 19 = .ok (.iastore, 1) := by decide +kernel
theorem dXM_setLowWord_20 : decode cXM_setLowWord 20 = .ok (.return_, 1) := by decide +kernel
theorem dXM_moveQuick_0 : decode cXM_moveQuick 0 = .ok (.iload_n 1, 1) := by decide +kernel
theorem dXM_moveQuick_1 : decode cXM_moveQuick 1 = .ok (.sipush 256, 3) := by decide +kernel
theorem dXM_moveQuick_4 : decode cXM_moveQuick 4 = .ok (.iand, 1) := by decide +kernel
theorem dXM_moveQuick_5 : decode cXM_moveQuick 5 = .ok (.ifCond .eq 5, 3) := by decide +kernel
theorem dXM_moveQuick_8 : decode cXM_moveQuick 8 = .ok (.iconst 0, 1) := by decide +kernel
theorem dXM_moveQuick_9 : decode cXM_moveQuick 9 = .ok (.ireturn, 1) := by decide +kernel
theorem dXM_moveQuick_10 : decode cXM_moveQuick 10 = .ok (.iload_n 1, 1) := by decide +kernel
theorem dXM_moveQuick_11 : decode cXM_moveQuick 11 = .ok (.i2b, 1) := by decide +kernel
theorem dXM_moveQuick_12 : decode cXM_moveQuick 12 = .ok (.istore_n 2, 1) := by decide +kernel
theorem dXM_moveQuick_13 : decode cXM_moveQuick 13 = .ok (.aload_n 0, 1) := by decide +kernel
theorem dXM_moveQuick_14 : decode cXM_moveQuick 14 = .ok (.getfield 13, 3) := by decide +kernel
theorem dXM_moveQuick_17 : decode cXM_moveQuick 17 = .ok (.iload_n 1, 1) := by decide +kernel
theorem dXM_moveQuick_18 : decode cXM_moveQuick 18 = .ok (.bipush 9, 2) := by decide +kernel
theorem dXM_moveQuick_20 : decode cXM_moveQuick 20 = .ok (.ishr, 1) := by decide +kernel
theorem dXM_moveQuick_21 : decode cXM_moveQuick 21 = .ok (.bipush 7, 2) := by decide +kernel
theorem dXM_moveQuick_23 : decode cXM_moveQuick 23 = .ok (.iand, 1) := by decide +kernel
theorem dXM_moveQuick_24 : decode cXM_moveQuick 24 = .ok (.iload_n 2, 1) := by decide +kernel
theorem dXM_moveQuick_25 : decode cXM_moveQuick 25 = .ok (.iastore, 1) := by decide +kernel
theorem dXM_moveQuick_26 : decode cXM_moveQuick 26 = .ok (.aload_n 0, 1) := by decide +kernel
theorem dXM_moveQuick_27 : decode cXM_moveQuick 27 = .ok (.iload_n 2, 1) := by decide +kernel
theorem dXM_moveQuick_28 : decode cXM_moveQuick 28 = .ok (.invokevirtual 86, 3) := by decide +kernel
theorem dXM_moveQuick_31 : decode cXM_moveQuick 31 = .ok (.iconst 4, 1) := by decide +kernel
theorem dXM_moveQuick_32 : decode cXM_moveQuick 32 = .ok (.ireturn, 1) := by decide +kernel
theorem dXM_moveWord_0 : decode cXM_moveWord 0 = .ok (.iload_n 1, 1) := by decide +kernel
theorem dXM_moveWord_1 : decode cXM_moveWord 1 = .ok (.bipush 9, 2) := by decide +kernel
theorem dXM_moveWord_3 : decode cXM_moveWord 3 = .ok (.ishr, 1) := by decide +kernel
theorem dXM_moveWord_4 : decode cXM_moveWord 4 = .ok (.bipush 7, 2) := by decide +kernel
theorem dXM_moveWord_6 : decode cXM_moveWord 6 = .ok (.iand, 1) := by decide +kernel
theorem dXM_moveWord_7 : decode cXM_moveWord 7 = .ok (.istore_n 2, 1) := by decide +kernel
theorem dXM_moveWord_8 : decode cXM_moveWord 8 = .ok (.iload_n 1, 1) := by decide +kernel
theorem dXM_moveWord_9 : decode cXM_moveWord 9 = .ok (.sipush 504, 3) := by decide +kernel
theorem dXM_moveWord_12 : decode cXM_moveWord 12 = .ok (.iand, 1) := by decide +kernel
theorem dXM_moveWord_13 : decode cXM_moveWord 13 = .ok (.ifCond .ne 19, 3) := by decide +kernel
theorem dXM_moveWord_16 : decode cXM_moveWord 16 = .ok (.aload_n 0, 1) := by decide +kernel
theorem dXM_moveWord_17 : decode cXM_moveWord 17 = .ok (.iload_n 2, 1) := by decide +kernel
theorem dXM_moveWord_18 : decode cXM_moveWord 18 = .ok (.aload_n 0, 1) := by decide +kernel
theorem dXM_moveWord_19 : decode cXM_moveWord 19 = .ok (.getfield 13, 3) := by decide +kernel
theorem dXM_moveWord_22 : decode cXM_moveWord 22 = .ok (.iload_n 1, 1) := by decide +kernel
theorem dXM_moveWord_23 : decode cXM_moveWord 23 = .ok (.bipush 7, 2) := by decide +kernel
theorem dXM_moveWord_25 : decode cXM_moveWord 25 = .ok (.iand, 1) := by decide +kernel
theorem dXM_moveWord_26 : decode cXM_moveWord 26 = .ok (.iaload, 1) := by decide +kernel
theorem dXM_moveWord_27 : decode cXM_moveWord 27 = .ok (.invokevirtual 90, 3) := by decide +kernel
theorem dXM_moveWord_30 : decode cXM_moveWord 30 = .ok (.iconst 4, 1) := by decide +kernel
theorem dXM_moveWord_31 : decode cXM_moveWord 31 = .ok (.ireturn, 1) := by decide +kernel
theorem dXM_moveWord_32 : decode cXM_moveWord 32 = .ok (.iload_n 1, 1) := by decide +kernel
theorem dXM_moveWord_33 : decode cXM_moveWord 33 = .ok (.sipush 511, 3) := by decide +kernel
theorem dXM_moveWord_36 : decode cXM_moveWord 36 = .ok (.iand, 1) := by decide +kernel
theorem dXM_moveWord_37 : decode cXM_moveWord 37 = .ok (.bipush 56, 2) := by decide +kernel
theorem dXM_moveWord_39 : decode cXM_moveWord 39 = .ok (.if_icmp .ne 22, 3) := by decide +kernel
theorem dXM_moveWord_42 : decode cXM_moveWord 42 = .ok (.aload_n 0, 1) := by decide +kernel
theorem dXM_moveWord_43 : decode cXM_moveWord 43 = .ok (.iload_n 2, 1) := by decide +kernel
theorem dXM_moveWord_44 : decode cXM_moveWord 44 = .ok (.aload_n 0, 1) := by decide +kernel
theorem dXM_moveWord_45 : decode cXM_moveWord 45 = .ok (.getfield 7, 3) := by decide +kernel
theorem dXM_moveWord_48 : decode cXM_moveWord 48 = .ok (.aload_n 0, 1) := by decide +kernel
theorem dXM_moveWord_49 : decode cXM_moveWord 49 = .ok (.invokevirtual 56, 3) := by decide +kernel
theorem dXM_moveWord_52 : decode cXM_moveWord 52 = .ok (.invokevirtual 93, 3) := by decide +kernel
theorem dXM_moveWord_55 : decode cXM_moveWord 55 = .ok (.invokevirtual 90, 3) := by decide +kernel
theorem dXM_moveWord_58 : decode cXM_moveWord 58 = .ok (.bipush 12, 2) := by decide +kernel
theorem dXM_moveWord_60 : decode cXM_moveWord 60 = .ok (.ireturn, 1) := by decide +kernel
theorem dXM_moveWord_61 : decode cXM_moveWord 61 = .ok (.iload_n 1, 1) := by decide +kernel
theorem dXM_moveWord_62 : decode cXM_moveWord 62 = .ok (.sipush 12796, 3) := by decide +kernel
theorem dXM_moveWord_65 : decode cXM_moveWord 65 = .ok (.if_icmp .ne 7, 3) := by decide +kernel
theorem dXM_moveWord_68 : decode cXM_moveWord 68 = .ok (.iconst 1, 1) := by decide +kernel
theorem dXM_moveWord_69 : decode cXM_moveWord 69 = .ok (.goto 4, 3) := by decide +kernel
theorem dXM_moveWord_72 : decode cXM_moveWord 72 = .ok (.iconst 0, 1) := by decide +kernel
theorem dXM_moveWord_73 : decode cXM_moveWord 73 = .ok (.istore_n 3, 1) := by decide +kernel
theorem dXM_moveWord_74 : decode cXM_moveWord 74 = .ok (.iload_n 3, 1) := by decide +kernel
theorem dXM_moveWord_75 : decode cXM_moveWord 75 = .ok (.ifCond .ne 15, 3) := by decide +kernel
theorem dXM_moveWord_78 : decode cXM_moveWord 78 = .ok (.iload_n 1, 1) := by decide +kernel
theorem dXM_moveWord_79 : decode cXM_moveWord 79 = .ok (.ldc 96, 2) := by decide +kernel
theorem dXM_moveWord_81 : decode cXM_moveWord 81 = .ok (.iand, 1) := by decide +kernel
theorem dXM_moveWord_82 : decode cXM_moveWord 82 = .ok (.sipush 12736, 3) := by decide +kernel
theorem dXM_moveWord_85 : decode cXM_moveWord 85 = .ok (.if_icmp .eq 5, 3) := by decide +kernel
theorem dXM_moveWord_88 : decode cXM_moveWord 88 = .ok (.iconst 0, 1) := by decide +kernel
theorem dXM_moveWord_89 : decode cXM_moveWord 89 = .ok (.ireturn, 1) := by decide +kernel
theorem dXM_moveWord_90 : decode cXM_moveWord 90 = .ok (.iload_n 3, 1) := by decide +kernel
theorem dXM_moveWord_91 : decode cXM_moveWord 91 = .ok (.ifCond .eq 10, 3) := by decide +kernel
theorem dXM_moveWord_94 : decode cXM_moveWord 94 = .ok (.aload_n 0, 1) := by decide +kernel
theorem dXM_moveWord_95 : decode cXM_moveWord 95 = .ok (.invokevirtual 56, 3) := by decide +kernel
theorem dXM_moveWord_98 : decode cXM_moveWord 98 = .ok (.goto 15, 3) := by decide +kernel
theorem dXM_moveWord_101 : decode cXM_moveWord 101 = .ok (.aload_n 0, 1) := by decide +kernel
theorem dXM_moveWord_102 : decode cXM_moveWord 102 = .ok (.getfield 13, 3) := by decide +kernel
theorem dXM_moveWord_105 : decode cXM_moveWord 105 = .ok (.iload_n 1, 1) := by decide +kernel
theorem dXM_moveWord_106 : decode cXM_moveWord 106 = .ok (.bipush 7, 2) := by decide +kernel
theorem dXM_moveWord_108 : decode cXM_moveWord 108 = .ok (.iand, 1) := by decide +kernel
theorem dXM_moveWord_109 : decode cXM_moveWord 109 = .ok (.iaload, 1) := by decide +kernel
theorem dXM_moveWord_110 : decode cXM_moveWord 110 = .ok (.ldc 78, 2) := by decide +kernel
theorem dXM_moveWord_112 : decode cXM_moveWord 112 = .ok (.iand, 1) := by decide +kernel
theorem dXM_moveWord_113 : decode cXM_moveWord 113 = .ok (.istore 4, 2) := by decide +kernel
theorem dXM_moveWord_115 : decode cXM_moveWord 115 = .ok (.aload_n 0, 1) := by decide +kernel
theorem dXM_moveWord_116 : decode cXM_moveWord 116 = .ok (.getfield 7, 3) := by decide +kernel
theorem dXM_moveWord_119 : decode cXM_moveWord 119 = .ok (.aload_n 0, 1) := by decide +kernel
theorem dXM_moveWord_120 : decode cXM_moveWord 120 = .ok (.invokevirtual 56, 3) := by decide +kernel
theorem dXM_moveWord_123 : decode cXM_moveWord 123 = .ok (.iload 4, 2) := by decide +kernel
theorem dXM_moveWord_125 : decode cXM_moveWord 125 = .ok (.invokevirtual 82, 3) := by decide +kernel
theorem dXM_moveWord_128 : decode cXM_moveWord 128 = .ok (.aload_n 0, 1) := by decide +kernel
theorem dXM_moveWord_129 : decode cXM_moveWord 129 = .ok (.iload 4, 2) := by decide +kernel
theorem dXM_moveWord_131 : decode cXM_moveWord 131 = .ok (.i2s, 1) := by decide +kernel
theorem dXM_moveWord_132 : decode cXM_moveWord 132 = .ok (.invokevirtual 86, 3) := by decide +kernel
theorem dXM_moveWord_135 : decode cXM_moveWord 135 = .ok (.iload_n 3, 1) := by decide +kernel
theorem dXM_moveWord_136 : decode cXM_moveWord 136 = .ok (.ifCond .eq 8, 3) := by decide +kernel
theorem dXM_moveWord_139 : decode cXM_moveWord 139 = .ok (.bipush 16, 2) := by decide +kernel
theorem dXM_moveWord_141 : decode cXM_moveWord 141 = .ok (.goto 5, 3) := by decide +kernel
theorem dXM_moveWord_144 : decode cXM_moveWord 144 = .ok (.bipush 12, 2) := by decide +kernel
theorem dXM_moveWord_146 : decode cXM_moveWord 146 = .ok (.ireturn, 1) := by decide +kernel
theorem dXM_load_0 : decode cXM_load 0 = .ok (.aload_n 0, 1) := by decide +kernel
theorem dXM_load_1 : decode cXM_load 1 = .ok (.iload_n 1, 1) := by decide +kernel
theorem dXM_load_2 : decode cXM_load 2 = .ok (.iload_n 2, 1) := by decide +kernel
theorem dXM_load_3 : decode cXM_load 3 = .ok (.invokevirtual 97, 3) := by decide +kernel
theorem dXM_load_6 : decode cXM_load 6 = .ok (.aload_n 0, 1) := by decide +kernel
theorem dXM_load_7 : decode cXM_load 7 = .ok (.iload_n 2, 1) := by decide +kernel
theorem dXM_load_8 : decode cXM_load 8 = .ok (.i2s, 1) := by decide +kernel
theorem dXM_load_9 : decode cXM_load 9 = .ok (.invokevirtual 86, 3) := by decide +kernel
theorem dXM_load_12 : decode cXM_load 12 = .ok (.return_, 1) := by decide +kernel
theorem dXM_add_0 : decode cXM_add 0 = .ok (.iload_n 1, 1) := by decide +kernel
theorem dXM_add_1 : decode cXM_add 1 = .ok (.sipush 504, 3) := by decide +kernel
theorem dXM_add_4 : decode cXM_add 4 = .ok (.iand, 1) := by decide +kernel
theorem dXM_add_5 : decode cXM_add 5 = .ok (.bipush 64, 2) := by decide +kernel
theorem dXM_add_7 : decode cXM_add 7 = .ok (.if_icmp .eq 5, 3) := by decide +kernel
theorem dXM_add_10 : decode cXM_add 10 = .ok (.iconst 0, 1) := by decide +kernel
theorem dXM_add_11 : decode cXM_add 11 = .ok (.ireturn, 1) := by decide +kernel
theorem dXM_add_12 : decode cXM_add 12 = .ok (.iload_n 1, 1) := by decide +kernel
theorem dXM_add_13 : decode cXM_add 13 = .ok (.bipush 9, 2) := by decide +kernel
theorem dXM_add_15 : decode cXM_add 15 = .ok (.ishr, 1) := by decide +kernel
theorem dXM_add_16 : decode cXM_add 16 = .ok (.bipush 7, 2) := by decide +kernel
theorem dXM_add_18 : decode cXM_add 18 = .ok (.iand, 1) := by decide +kernel
theorem dXM_add_19 : decode cXM_add 19 = .ok (.istore_n 2, 1) := by decide +kernel
theorem dXM_add_20 : decode cXM_add 20 = .ok (.aload_n 0, 1) := by decide +kernel
theorem dXM_add_21 : decode cXM_add 21 = .ok (.getfield 13, 3) := by decide +kernel
theorem dXM_add_24 : decode cXM_add 24 = .ok (.iload_n 2, 1) := by decide +kernel
theorem dXM_add_25 : decode cXM_add 25 = .ok (.iaload, 1) := by decide +kernel
theorem dXM_add_26 : decode cXM_add 26 = .ok (.istore_n 3, 1) := by decide +kernel
theorem dXM_add_27 : decode cXM_add 27 = .ok (.aload_n 0, 1) := by decide +kernel
theorem dXM_add_28 : decode cXM_add 28 = .ok (.getfield 13, 3) := by decide +kernel
theorem dXM_add_31 : decode cXM_add 31 = .ok (.iload_n 1, 1) := by decide +kernel
theorem dXM_add_32 : decode cXM_add 32 = .ok (.bipush 7, 2) := by decide +kernel
theorem dXM_add_34 : decode cXM_add 34 = .ok (.iand, 1) := by decide +kernel
theorem dXM_add_35 : decode cXM_add 35 = .ok (.iaload, 1) := by decide +kernel
theorem dXM_add_36 : decode cXM_add 36 = .ok (.istore 4, 2) := by decide +kernel
theorem dXM_add_38 : decode cXM_add 38 = .ok (.iload_n 3, 1) := by decide +kernel
theorem dXM_add_39 : decode cXM_add 39 = .ok (.i2s, 1) := by decide +kernel
theorem dXM_add_40 : decode cXM_add 40 = .ok (.iload 4, 2) := by decide +kernel
theorem dXM_add_42 : decode cXM_add 42 = .ok (.i2s, 1) := by decide +kernel
theorem dXM_add_43 : decode cXM_add 43 = .ok (.iadd, 1) := by decide +kernel
theorem dXM_add_44 : decode cXM_add 44 = .ok (.istore 5, 2) := by decide +kernel
theorem dXM_add_46 : decode cXM_add 46 = .ok (.aload_n 0, 1) := by decide +kernel
theorem dXM_add_47 : decode cXM_add 47 = .ok (.iload 5, 2) := by decide +kernel
theorem dXM_add_49 : decode cXM_add 49 = .ok (.iload_n 3, 1) := by decide +kernel
theorem dXM_add_50 : decode cXM_add 50 = .ok (.ldc 78, 2) := by decide +kernel
theorem dXM_add_52 : decode cXM_add 52 = .ok (.iand, 1) := by decide +kernel
theorem dXM_add_53 : decode cXM_add 53 = .ok (.iload 4, 2) := by decide +kernel
theorem dXM_add_55 : decode cXM_add 55 = .ok (.ldc 78, 2) := by decide +kernel
theorem dXM_add_57 : decode cXM_add 57 = .ok (.iand, 1) := by decide +kernel
theorem dXM_add_58 : decode cXM_add 58 = .ok (.iadd, 1) := by decide +kernel
theorem dXM_add_59 : decode cXM_add 59 = .ok (.ldc 78, 2) := by decide +kernel
theorem dXM_add_61 : decode cXM_add 61 = .ok (.if_icmp .le 7, 3) := by decide +kernel
theorem dXM_add_64 : decode cXM_add 64 = .ok (.iconst 1, 1) := by decide +kernel
theorem dXM_add_65 : decode cXM_add 65 = .ok (.goto 4, 3) := by decide +kernel
theorem dXM_add_68 : decode cXM_add 68 = .ok (.iconst 0, 1) := by decide +kernel
theorem dXM_add_69 : decode cXM_add 69 = .ok (.invokevirtual 100, 3) := by decide +kernel
theorem dXM_add_72 : decode cXM_add 72 = .ok (.aload_n 0, 1) := by decide +kernel
theorem dXM_add_73 : decode cXM_add 73 = .ok (.iload_n 2, 1) := by decide +kernel
theorem dXM_add_74 : decode cXM_add 74 = .ok (.iload 5, 2) := by decide +kernel
theorem dXM_add_76 : decode cXM_add 76 = .ok (.invokevirtual 97, 3) := by decide +kernel
theorem dXM_add_79 : decode cXM_add 79 = .ok (.iconst 4, 1) := by decide +kernel
theorem dXM_add_80 : decode cXM_add 80 = .ok (.ireturn, 1) := by decide +kernel
theorem dXM_compare_0 : decode cXM_compare 0 = .ok (.iload_n 1, 1) := by decide +kernel
theorem dXM_compare_1 : decode cXM_compare 1 = .ok (.sipush 504, 3) := by decide +kernel
theorem dXM_compare_4 : decode cXM_compare 4 = .ok (.iand, 1) := by decide +kernel
theorem dXM_compare_5 : decode cXM_compare 5 = .ok (.bipush 64, 2) := by decide +kernel
theorem dXM_compare_7 : decode cXM_compare 7 = .ok (.if_icmp .eq 5, 3) := by decide +kernel
theorem dXM_compare_10 : decode cXM_compare 10 = .ok (.iconst 0, 1) := by decide +kernel
theorem dXM_compare_11 : decode cXM_compare 11 = .ok (.ireturn, 1) := by decide +kernel
theorem dXM_compare_12 : decode cXM_compare 12 = .ok (.aload_n 0, 1) := by decide +kernel
theorem dXM_compare_13 : decode cXM_compare 13 = .ok (.getfield 13, 3) := by decide +kernel
theorem dXM_compare_16 : decode cXM_compare 16 = .ok (.iload_n 1, 1) := by decide +kernel
theorem dXM_compare_17 : decode cXM_compare 17 = .ok (.bipush 9, 2) := by decide +kernel
theorem dXM_compare_19 : decode cXM_compare 19 = .ok (.ishr, 1) := by decide +kernel
theorem dXM_compare_20 : decode cXM_compare 20 = .ok (.bipush 7, 2) := by decide +kernel
theorem dXM_compare_22 : decode cXM_compare 22 = .ok (.iand, 1) := by decide +kernel
theorem dXM_compare_23 : decode cXM_compare 23 = .ok (.iaload, 1) := by decide +kernel
theorem dXM_compare_24 : decode cXM_compare 24 = .ok (.istore_n 2, 1) := by decide +kernel
theorem dXM_compare_25 : decode cXM_compare 25 = .ok (.aload_n 0, 1) := by decide +kernel
theorem dXM_compare_26 : decode cXM_compare 26 = .ok (.getfield 13, 3) := by decide +kernel
theorem dXM_compare_29 : decode cXM_compare 29 = .ok (.iload_n 1, 1) := by decide +kernel
theorem dXM_compare_30 : decode cXM_compare 30 = .ok (.bipush 7, 2) := by decide +kernel
theorem dXM_compare_32 : decode cXM_compare 32 = .ok (.iand, 1) := by decide +kernel
theorem dXM_compare_33 : decode cXM_compare 33 = .ok (.iaload, 1) := by decide +kernel
theorem dXM_compare_34 : decode cXM_compare 34 = .ok (.istore_n 3, 1) := by decide +kernel
theorem dXM_compare_35 : decode cXM_compare 35 = .ok (.aload_n 0, 1) := by decide +kernel
theorem dXM_compare_36 : decode cXM_compare 36 = .ok (.iload_n 2, 1) := by decide +kernel
theorem dXM_compare_37 : decode cXM_compare 37 = .ok (.i2s, 1) := by decide +kernel
theorem dXM_compare_38 : decode cXM_compare 38 = .ok (.iload_n 3, 1) := by decide +kernel
theorem dXM_compare_39 : decode cXM_compare 39 = .ok (.i2s, 1) := by decide +kernel
theorem dXM_compare_40 : decode cXM_compare 40 = .ok (.isub, 1) := by decide +kernel
theorem dXM_compare_41 : decode cXM_compare 41 = .ok (.iload_n 2, 1) := by decide +kernel
theorem dXM_compare_42 : decode cXM_compare 42 = .ok (.ldc 78, 2) := by decide +kernel
theorem dXM_compare_44 : decode cXM_compare 44 = .ok (.iand, 1) := by decide +kernel
theorem dXM_compare_45 : decode cXM_compare 45 = .ok (.iload_n 3, 1) := by decide +kernel
theorem dXM_compare_46 : decode cXM_compare 46 = .ok (.ldc 78, 2) := by decide +kernel
theorem dXM_compare_48 : decode cXM_compare 48 = .ok (.iand, 1) := by decide +kernel
theorem dXM_compare_49 : decode cXM_compare 49 = .ok (.if_icmp .ge 7, 3) := by decide +kernel
theorem dXM_compare_52 : decode cXM_compare 52 = .ok (.iconst 1, 1) := by decide +kernel
theorem dXM_compare_53 : decode cXM_compare 53 = .ok (.goto 4, 3) := by decide +kernel
theorem dXM_compare_56 : decode cXM_compare 56 = .ok (.iconst 0, 1) := by decide +kernel
theorem dXM_compare_57 : decode cXM_compare 57 = .ok (.invokevirtual 100, 3) := by decide +kernel
theorem dXM_compare_60 : decode cXM_compare 60 = .ok (.iconst 4, 1) := by decide +kernel
theorem dXM_compare_61 : decode cXM_compare 61 = .ok (.ireturn, 1) := by decide +kernel
theorem dXM_branch_0 : decode cXM_branch 0 = .ok (.iload_n 1, 1) := by decide +kernel
theorem dXM_branch_1 : decode cXM_branch 1 = .ok (.i2b, 1) := by decide +kernel
theorem dXM_branch_2 : decode cXM_branch 2 = .ok (.istore_n 2, 1) := by decide +kernel
theorem dXM_branch_3 : decode cXM_branch 3 = .ok (.iload_n 2, 1) := by decide +kernel
theorem dXM_branch_4 : decode cXM_branch 4 = .ok (.ifCond .ne 5, 3) := by decide +kernel
theorem dXM_branch_7 : decode cXM_branch 7 = .ok (.iconst 0, 1) := by decide +kernel
theorem dXM_branch_8 : decode cXM_branch 8 = .ok (.ireturn, 1) := by decide +kernel
theorem dXM_branch_9 : decode cXM_branch 9 = .ok (.aload_n 0, 1) := by decide +kernel
theorem dXM_branch_10 : decode cXM_branch 10 = .ok (.iload_n 1, 1) := by decide +kernel
theorem dXM_branch_11 : decode cXM_branch 11 = .ok (.bipush 8, 2) := by decide +kernel
theorem dXM_branch_13 : decode cXM_branch 13 = .ok (.ishr, 1) := by decide +kernel
theorem dXM_branch_14 : decode cXM_branch 14 = .ok (.bipush 15, 2) := by decide +kernel
theorem dXM_branch_16 : decode cXM_branch 16 = .ok (.iand, 1) := by decide +kernel
theorem dXM_branch_17 : decode cXM_branch 17 = .ok (.invokevirtual 104, 3) := by decide +kernel
theorem dXM_branch_20 : decode cXM_branch 20 = .ok (.ifCond .ne 6, 3) := by decide +kernel
theorem dXM_branch_23 : decode cXM_branch 23 = .ok (.bipush 8, 2) := by decide +kernel
theorem dXM_branch_25 : decode cXM_branch 25 = .ok (.ireturn, 1) := by decide +kernel
theorem dXM_branch_26 : decode cXM_branch 26 = .ok (.aload_n 0, 1) := by decide +kernel
theorem dXM_branch_27 : decode cXM_branch 27 = .ok (.aload_n 0, 1) := by decide +kernel
theorem dXM_branch_28 : decode cXM_branch 28 = .ok (.getfield 31, 3) := by decide +kernel
theorem dXM_branch_31 : decode cXM_branch 31 = .ok (.iload_n 2, 1) := by decide +kernel
theorem dXM_branch_32 : decode cXM_branch 32 = .ok (.iadd, 1) := by decide +kernel
theorem dXM_branch_33 : decode cXM_branch 33 = .ok (.ldc 78, 2) := by decide +kernel
theorem dXM_branch_35 : decode cXM_branch 35 = .ok (.iand, 1) := by decide +kernel
theorem dXM_branch_36 : decode cXM_branch 36 = .ok (.putfield 31, 3) := by decide +kernel
theorem dXM_branch_39 : decode cXM_branch 39 = .ok (.bipush 10, 2) := by decide +kernel
theorem dXM_branch_41 : decode cXM_branch 41 = .ok (.ireturn, 1) := by decide +kernel
theorem dXM_conditionHolds_0 : decode cXM_conditionHolds 0 = .ok (.iload_n 1, 1) := by decide +kernel
theorem dXM_conditionHolds_1 : decode cXM_conditionHolds 1 = .ok (.tableswitch 119 0 11 #[63, 119, 119, 119, 65, 78, 83, 96, 119, 119, 101, 114], 63) := by decide +kernel
theorem dXM_conditionHolds_64 : decode cXM_conditionHolds 64 = .ok (.iconst 1, 1) := by decide +kernel
theorem dXM_conditionHolds_65 : decode cXM_conditionHolds 65 = .ok (.ireturn, 1) := by decide +kernel
theorem dXM_conditionHolds_66 : decode cXM_conditionHolds 66 = .ok (.aload_n 0, 1) := by decide +kernel
theorem dXM_conditionHolds_67 : decode cXM_conditionHolds 67 = .ok (.getfield 50, 3) := by decide +kernel
theorem dXM_conditionHolds_70 : decode cXM_conditionHolds 70 = .ok (.ifCond .ne 7, 3) := by decide +kernel
theorem dXM_conditionHolds_73 : decode cXM_conditionHolds 73 = .ok (.iconst 1, 1) := by decide +kernel
theorem dXM_conditionHolds_74 : decode cXM_conditionHolds 74 = .ok (.goto 4, 3) := by decide +kernel
theorem dXM_conditionHolds_77 : decode cXM_conditionHolds 77 = .ok (.iconst 0, 1) := by decide +kernel
theorem dXM_conditionHolds_78 : decode cXM_conditionHolds 78 = .ok (.ireturn, 1) := by decide +kernel
theorem dXM_conditionHolds_79 : decode cXM_conditionHolds 79 = .ok (.aload_n 0, 1) := by decide +kernel
theorem dXM_conditionHolds_80 : decode cXM_conditionHolds 80 = .ok (.getfield 50, 3) := by decide +kernel
theorem dXM_conditionHolds_83 : decode cXM_conditionHolds 83 = .ok (.ireturn, 1) := by decide +kernel
theorem dXM_conditionHolds_84 : decode cXM_conditionHolds 84 = .ok (.aload_n 0, 1) := by decide +kernel
theorem dXM_conditionHolds_85 : decode cXM_conditionHolds 85 = .ok (.getfield 44, 3) := by decide +kernel
theorem dXM_conditionHolds_88 : decode cXM_conditionHolds 88 = .ok (.ifCond .ne 7, 3) := by decide +kernel
theorem dXM_conditionHolds_91 : decode cXM_conditionHolds 91 = .ok (.iconst 1, 1) := by decide +kernel
theorem dXM_conditionHolds_92 : decode cXM_conditionHolds 92 = .ok (.goto 4, 3) := by decide +kernel
theorem dXM_conditionHolds_95 : decode cXM_conditionHolds 95 = .ok (.iconst 0, 1) := by decide +kernel
theorem dXM_conditionHolds_96 : decode cXM_conditionHolds 96 = .ok (.ireturn, 1) := by decide +kernel
theorem dXM_conditionHolds_97 : decode cXM_conditionHolds 97 = .ok (.aload_n 0, 1) := by decide +kernel
theorem dXM_conditionHolds_98 : decode cXM_conditionHolds 98 = .ok (.getfield 44, 3) := by decide +kernel
theorem dXM_conditionHolds_101 : decode cXM_conditionHolds 101 = .ok (.ireturn, 1) := by decide +kernel
theorem dXM_conditionHolds_102 : decode cXM_conditionHolds 102 = .ok (.aload_n 0, 1) := by decide +kernel
theorem dXM_conditionHolds_103 : decode cXM_conditionHolds 103 = .ok (.getfield 41, 3) := by decide +kernel
theorem dXM_conditionHolds_106 : decode cXM_conditionHolds 106 = .ok (.ifCond .ne 7, 3) := by decide +kernel
theorem dXM_conditionHolds_109 : decode cXM_conditionHolds 109 = .ok (.iconst 1, 1) := by decide +kernel
theorem dXM_conditionHolds_110 : decode cXM_conditionHolds 110 = .ok (.goto 4, 3) := by decide +kernel
theorem dXM_conditionHolds_113 : decode cXM_conditionHolds 113 = .ok (.iconst 0, 1) := by decide +kernel
theorem dXM_conditionHolds_114 : decode cXM_conditionHolds 114 = .ok (.ireturn, 1) := by decide +kernel
theorem dXM_conditionHolds_115 : decode cXM_conditionHolds 115 = .ok (.aload_n 0, 1) := by decide +kernel
theorem dXM_conditionHolds_116 : decode cXM_conditionHolds 116 = .ok (.getfield 41, 3) := by decide +kernel
theorem dXM_conditionHolds_119 : decode cXM_conditionHolds 119 = .ok (.ireturn, 1) := by decide +kernel
theorem dXM_conditionHolds_120 : decode cXM_conditionHolds 120 = .ok (.iconst 0, 1) := by decide +kernel
theorem dXM_conditionHolds_121 : decode cXM_conditionHolds 121 = .ok (.ireturn, 1) := by decide +kernel
theorem dXM_controlMachine_0 : decode cXM_controlMachine 0 = .ok (.iload_n 1, 1) := by decide +kernel
theorem dXM_controlMachine_1 : decode cXM_controlMachine 1 = .ok (.ldc 96, 2) := by decide +kernel
theorem dXM_controlMachine_3 : decode cXM_controlMachine 3 = .ok (.iand, 1) := by decide +kernel
theorem dXM_controlMachine_4 : decode cXM_controlMachine 4 = .ok (.sipush 20064, 3) := by decide +kernel
theorem dXM_controlMachine_7 : decode cXM_controlMachine 7 = .ok (.if_icmp .ne 21, 3) := by decide +kernel
theorem dXM_controlMachine_10 : decode cXM_controlMachine 10 = .ok (.aload_n 0, 1) := by decide +kernel
theorem dXM_controlMachine_11 : decode cXM_controlMachine 11 = .ok (.aload_n 0, 1) := by decide +kernel
theorem dXM_controlMachine_12 : decode cXM_controlMachine 12 = .ok (.getfield 13, 3) := by decide +kernel
theorem dXM_controlMachine_15 : decode cXM_controlMachine 15 = .ok (.iload_n 1, 1) := by decide +kernel
theorem dXM_controlMachine_16 : decode cXM_controlMachine 16 = .ok (.bipush 7, 2) := by decide +kernel
theorem dXM_controlMachine_18 : decode cXM_controlMachine 18 = .ok (.iand, 1) := by decide +kernel
theorem dXM_controlMachine_19 : decode cXM_controlMachine 19 = .ok (.iaload, 1) := by decide +kernel
theorem dXM_controlMachine_20 : decode cXM_controlMachine 20 = .ok (.ldc 78, 2) := by decide +kernel
theorem dXM_controlMachine_22 : decode cXM_controlMachine 22 = .ok (.iand, 1) := by decide +kernel
theorem dXM_controlMachine_23 : decode cXM_controlMachine 23 = .ok (.putfield 27, 3) := by decide +kernel
theorem dXM_controlMachine_26 : decode cXM_controlMachine 26 = .ok (.iconst 4, 1) := by decide +kernel
theorem dXM_controlMachine_27 : decode cXM_controlMachine 27 = .ok (.ireturn, 1) := by decide +kernel
theorem dXM_controlMachine_28 : decode cXM_controlMachine 28 = .ok (.iload_n 1, 1) := by decide +kernel
theorem dXM_controlMachine_29 : decode cXM_controlMachine 29 = .ok (.tableswitch 96 20081 20083 #[27, 29, 44], 27) := by decide +kernel
theorem dXM_controlMachine_56 : decode cXM_controlMachine 56 = .ok (.iconst 4, 1) := by decide +kernel
theorem dXM_controlMachine_57 : decode cXM_controlMachine 57 = .ok (.ireturn, 1) := by decide +kernel
theorem dXM_controlMachine_58 : decode cXM_controlMachine 58 = .ok (.aload_n 0, 1) := by decide +kernel
theorem dXM_controlMachine_59 : decode cXM_controlMachine 59 = .ok (.aload_n 0, 1) := by decide +kernel
theorem dXM_controlMachine_60 : decode cXM_controlMachine 60 = .ok (.invokevirtual 56, 3) := by decide +kernel
theorem dXM_controlMachine_63 : decode cXM_controlMachine 63 = .ok (.invokevirtual 17, 3) := by decide +kernel
theorem dXM_controlMachine_66 : decode cXM_controlMachine 66 = .ok (.aload_n 0, 1) := by decide +kernel
theorem dXM_controlMachine_67 : decode cXM_controlMachine 67 = .ok (.iconst 1, 1) := by decide +kernel
theorem dXM_controlMachine_68 : decode cXM_controlMachine 68 = .ok (.putfield 34, 3) := by decide +kernel
theorem dXM_controlMachine_71 : decode cXM_controlMachine 71 = .ok (.iconst 4, 1) := by decide +kernel
theorem dXM_controlMachine_72 : decode cXM_controlMachine 72 = .ok (.ireturn, 1) := by decide +kernel
theorem dXM_controlMachine_73 : decode cXM_controlMachine 73 = .ok (.aload_n 0, 1) := by decide +kernel
theorem dXM_controlMachine_74 : decode cXM_controlMachine 74 = .ok (.aload_n 0, 1) := by decide +kernel
theorem dXM_controlMachine_75 : decode cXM_controlMachine 75 = .ok (.getfield 7, 3) := by decide +kernel
theorem dXM_controlMachine_78 : decode cXM_controlMachine 78 = .ok (.aload_n 0, 1) := by decide +kernel
theorem dXM_controlMachine_79 : decode cXM_controlMachine 79 = .ok (.getfield 27, 3) := by decide +kernel
theorem dXM_controlMachine_82 : decode cXM_controlMachine 82 = .ok (.invokevirtual 21, 3) := by decide +kernel
theorem dXM_controlMachine_85 : decode cXM_controlMachine 85 = .ok (.invokevirtual 17, 3) := by decide +kernel
theorem dXM_controlMachine_88 : decode cXM_controlMachine 88 = .ok (.aload_n 0, 1) := by decide +kernel
theorem dXM_controlMachine_89 : decode cXM_controlMachine 89 = .ok (.aload_n 0, 1) := by decide +kernel
theorem dXM_controlMachine_90 : decode cXM_controlMachine 90 = .ok (.getfield 7, 3) := by decide +kernel
theorem dXM_controlMachine_93 : decode cXM_controlMachine 93 = .ok (.aload_n 0, 1) := by decide +kernel
theorem dXM_controlMachine_94 : decode cXM_controlMachine 94 = .ok (.getfield 27, 3) := by decide +kernel
theorem dXM_controlMachine_97 : decode cXM_controlMachine 97 = .ok (.iconst 4, 1) := by decide +kernel
theorem dXM_controlMachine_98 : decode cXM_controlMachine 98 = .ok (.iadd, 1) := by decide +kernel
theorem dXM_controlMachine_99 : decode cXM_controlMachine 99 = .ok (.ldc 78, 2) := by decide +kernel
theorem dXM_controlMachine_101 : decode cXM_controlMachine 101 = .ok (.iand, 1) := by decide +kernel
theorem dXM_controlMachine_102 : decode cXM_controlMachine 102 = .ok (.invokevirtual 21, 3) := by decide +kernel
theorem dXM_controlMachine_105 : decode cXM_controlMachine 105 = .ok (.putfield 31, 3) := by decide +kernel
theorem dXM_controlMachine_108 : decode cXM_controlMachine 108 = .ok (.aload_n 0, 1) := by decide +kernel
theorem dXM_controlMachine_109 : decode cXM_controlMachine 109 = .ok (.aload_n 0, 1) := by decide +kernel
theorem dXM_controlMachine_110 : decode cXM_controlMachine 110 = .ok (.getfield 27, 3) := by decide +kernel
theorem dXM_controlMachine_113 : decode cXM_controlMachine 113 = .ok (.bipush 6, 2) := by decide +kernel
theorem dXM_controlMachine_115 : decode cXM_controlMachine 115 = .ok (.iadd, 1) := by decide +kernel
theorem dXM_controlMachine_116 : decode cXM_controlMachine 116 = .ok (.ldc 78, 2) := by decide +kernel
theorem dXM_controlMachine_118 : decode cXM_controlMachine 118 = .ok (.iand, 1) := by decide +kernel
theorem dXM_controlMachine_119 : decode cXM_controlMachine 119 = .ok (.putfield 27, 3) := by decide +kernel
theorem dXM_controlMachine_122 : decode cXM_controlMachine 122 = .ok (.bipush 20, 2) := by decide +kernel
theorem dXM_controlMachine_124 : decode cXM_controlMachine 124 = .ok (.ireturn, 1) := by decide +kernel
theorem dXM_controlMachine_125 : decode cXM_controlMachine 125 = .ok (.iconst 0, 1) := by decide +kernel
theorem dXM_controlMachine_126 : decode cXM_controlMachine 126 = .ok (.ireturn, 1) := by decide +kernel
end
section
theorem dXP_init_0 : decode cXP_init 0 = .ok (.aload_n 0, 1) := by decide +kernel
theorem dXP_init_1 : decode cXP_init 1 = .ok (.invokespecial 1, 3) := by decide +kernel
theorem dXP_init_4 : decode cXP_init 4 = .ok (.aload_n 0, 1) := by decide +kernel
theorem dXP_init_5 : decode cXP_init 5 = .ok (.sipush 1024, 3) := by decide +kernel
theorem dXP_init_8 : decode cXP_init 8 = .ok (.newarray .int, 2) := by decide +kernel
theorem dXP_init_10 : decode cXP_init 10 = .ok (.putfield 7, 3) := by decide +kernel
theorem dXP_init_13 : decode cXP_init 13 = .ok (.aload_n 0, 1) := by decide +kernel
theorem dXP_init_14 : decode cXP_init 14 = .ok (.bipush 16, 2) := by decide +kernel
theorem dXP_init_16 : decode cXP_init 16 = .ok (.newarray .int, 2) := by decide +kernel
theorem dXP_init_18 : decode cXP_init 18 = .ok (.putfield 13, 3) := by decide +kernel
theorem dXP_init_21 : decode cXP_init 21 = .ok (.aload_n 0, 1) := by decide +kernel
theorem dXP_init_22 : decode cXP_init 22 = .ok (.iconst 2, 1) := by decide +kernel
theorem dXP_init_23 : decode cXP_init 23 = .ok (.newarray .int, 2) := by decide +kernel
theorem dXP_init_25 : decode cXP_init 25 = .ok (.putfield 16, 3) := by decide +kernel
theorem dXP_init_28 : decode cXP_init 28 = .ok (.aload_n 0, 1) := by decide +kernel
theorem dXP_init_29 : decode cXP_init 29 = .ok (.bipush 16, 2) := by decide +kernel
theorem dXP_init_31 : decode cXP_init 31 = .ok (.newarray .int, 2) := by decide +kernel
theorem dXP_init_33 : decode cXP_init 33 = .ok (.putfield 19, 3) := by decide +kernel
theorem dXP_init_36 : decode cXP_init 36 = .ok (.return_, 1) := by decide +kernel
theorem dXP_vramWord_0 : decode cXP_vramWord 0 = .ok (.iconst 2, 1) := by decide +kernel
theorem dXP_vramWord_1 : decode cXP_vramWord 1 = .ok (.iload_n 1, 1) := by decide +kernel
theorem dXP_vramWord_2 : decode cXP_vramWord 2 = .ok (.imul, 1) := by decide +kernel
theorem dXP_vramWord_3 : decode cXP_vramWord 3 = .ok (.sipush 1023, 3) := by decide +kernel
theorem dXP_vramWord_6 : decode cXP_vramWord 6 = .ok (.iand, 1) := by decide +kernel
theorem dXP_vramWord_7 : decode cXP_vramWord 7 = .ok (.istore_n 2, 1) := by decide +kernel
theorem dXP_vramWord_8 : decode cXP_vramWord 8 = .ok (.aload_n 0, 1) := by decide +kernel
theorem dXP_vramWord_9 : decode cXP_vramWord 9 = .ok (.getfield 7, 3) := by decide +kernel
theorem dXP_vramWord_12 : decode cXP_vramWord 12 = .ok (.iload_n 2, 1) := by decide +kernel
theorem dXP_vramWord_13 : decode cXP_vramWord 13 = .ok (.iaload, 1) := by decide +kernel
theorem dXP_vramWord_14 : decode cXP_vramWord 14 = .ok (.sipush 256, 3) := by decide +kernel
theorem dXP_vramWord_17 : decode cXP_vramWord 17 = .ok (.imul, 1) := by decide +kernel
theorem dXP_vramWord_18 : decode cXP_vramWord 18 = .ok (.aload_n 0, 1) := by decide +kernel
theorem dXP_vramWord_19 : decode cXP_vramWord 19 = .ok (.getfield 7, 3) := by decide +kernel
theorem dXP_vramWord_22 : decode cXP_vramWord 22 = .ok (.iload_n 2, 1) := by decide +kernel
theorem dXP_vramWord_23 : decode cXP_vramWord 23 = .ok (.iconst 1, 1) := by decide +kernel
theorem dXP_vramWord_24 : decode cXP_vramWord 24 = .ok (.iadd, 1) := by decide +kernel
theorem dXP_vramWord_25 : decode cXP_vramWord 25 = .ok (.iaload, 1) := by decide +kernel
theorem dXP_vramWord_26 : decode cXP_vramWord 26 = .ok (.iadd, 1) := by decide +kernel
theorem dXP_vramWord_27 : decode cXP_vramWord 27 = .ok (.ireturn, 1) := by decide +kernel
theorem dXP_movesFromMemory_0 : decode cXP_movesFromMemory 0 = .ok (.aload_n 0, 1) := by decide +kernel
theorem dXP_movesFromMemory_1 : decode cXP_movesFromMemory 1 = .ok (.getfield 22, 3) := by decide +kernel
theorem dXP_movesFromMemory_4 : decode cXP_movesFromMemory 4 = .ok (.ifCond .le 7, 3) := by decide +kernel
theorem dXP_movesFromMemory_7 : decode cXP_movesFromMemory 7 = .ok (.iconst 1, 1) := by decide +kernel
theorem dXP_movesFromMemory_8 : decode cXP_movesFromMemory 8 = .ok (.goto 4, 3) := by decide +kernel
theorem dXP_movesFromMemory_11 : decode cXP_movesFromMemory 11 = .ok (.iconst 0, 1) := by decide +kernel
theorem dXP_movesFromMemory_12 : decode cXP_movesFromMemory 12 = .ok (.ireturn, 1) := by decide +kernel
theorem dXP_writeControl_0 : decode cXP_writeControl 0 = .ok (.aload_n 0, 1) := by decide +kernel
theorem dXP_writeControl_1 : decode cXP_writeControl 1 = .ok (.getfield 26, 3) := by decide +kernel
theorem dXP_writeControl_4 : decode cXP_writeControl 4 = .ok (.ifCond .ne 9, 3) := by decide +kernel
theorem dXP_writeControl_7 : decode cXP_writeControl 7 = .ok (.aload_n 0, 1) := by decide +kernel
theorem dXP_writeControl_8 : decode cXP_writeControl 8 = .ok (.iload_n 1, 1) := by decide +kernel
theorem dXP_writeControl_9 : decode cXP_writeControl 9 = .ok (.invokevirtual 30, 3) := by decide +kernel
theorem dXP_writeControl_12 : decode cXP_writeControl 12 = .ok (.return_, 1) := by decide +kernel
theorem dXP_writeControl_13 : decode cXP_writeControl 13 = .ok (.aload_n 0, 1) := by decide +kernel
theorem dXP_writeControl_14 : decode cXP_writeControl 14 = .ok (.iconst 0, 1) := by decide +kernel
theorem dXP_writeControl_15 : decode cXP_writeControl 15 = .ok (.putfield 26, 3) := by decide +kernel
theorem dXP_writeControl_18 : decode cXP_writeControl 18 = .ok (.aload_n 0, 1) := by decide +kernel
theorem dXP_writeControl_19 : decode cXP_writeControl 19 = .ok (.aload_n 0, 1) := by decide +kernel
theorem dXP_writeControl_20 : decode cXP_writeControl 20 = .ok (.getfield 34, 3) := by decide +kernel
theorem dXP_writeControl_23 : decode cXP_writeControl 23 = .ok (.sipush 16383, 3) := by decide +kernel
theorem dXP_writeControl_26 : decode cXP_writeControl 26 = .ok (.iand, 1) := by decide +kernel
theorem dXP_writeControl_27 : decode cXP_writeControl 27 = .ok (.iload_n 1, 1) := by decide +kernel
theorem dXP_writeControl_28 : decode cXP_writeControl 28 = .ok (.iconst 3, 1) := by decide +kernel
theorem dXP_writeControl_29 : decode cXP_writeControl 29 = .ok (.iand, 1) := by decide +kernel
theorem dXP_writeControl_30 : decode cXP_writeControl 30 = .ok (.bipush 14, 2) := by decide +kernel
theorem dXP_writeControl_32 : decode cXP_writeControl 32 = .ok (.ishl, 1) := by decide +kernel
theorem dXP_writeControl_33 : decode cXP_writeControl 33 = .ok (.ior, 1) := by decide +kernel
theorem dXP_writeControl_34 : decode cXP_writeControl 34 = .ok (.putfield 34, 3) := by decide +kernel
theorem dXP_writeControl_37 : decode cXP_writeControl 37 = .ok (.aload_n 0, 1) := by decide +kernel
theorem dXP_writeControl_38 : decode cXP_writeControl 38 = .ok (.aload_n 0, 1) := by decide +kernel
theorem dXP_writeControl_39 : decode cXP_writeControl 39 = .ok (.getfield 37, 3) := by decide +kernel
theorem dXP_writeControl_42 : decode cXP_writeControl 42 = .ok (.iconst 3, 1) := by decide +kernel
theorem dXP_writeControl_43 : decode cXP_writeControl 43 = .ok (.iand, 1) := by decide +kernel
theorem dXP_writeControl_44 : decode cXP_writeControl 44 = .ok (.iload_n 1, 1) := by decide +kernel
theorem dXP_writeControl_45 : decode cXP_writeControl 45 = .ok (.iconst 4, 1) := by decide +kernel
theorem dXP_writeControl_46 : decode cXP_writeControl 46 = .ok (.ishr, 1) := by decide +kernel
theorem dXP_writeControl_47 : decode cXP_writeControl 47 = .ok (.bipush 15, 2) := by decide +kernel
theorem dXP_writeControl_49 : decode cXP_writeControl 49 = .ok (.iand, 1) := by decide +kernel
theorem dXP_writeControl_50 : decode cXP_writeControl 50 = .ok (.iconst 2, 1) := by decide +kernel
theorem dXP_writeControl_51 : decode cXP_writeControl 51 = .ok (.ishl, 1) := by decide +kernel
theorem dXP_writeControl_52 : decode cXP_writeControl 52 = .ok (.ior, 1) := by decide +kernel
theorem dXP_writeControl_53 : decode cXP_writeControl 53 = .ok (.putfield 37, 3) := by decide +kernel
theorem dXP_writeControl_56 : decode cXP_writeControl 56 = .ok (.aload_n 0, 1) := by decide +kernel
theorem dXP_writeControl_57 : decode cXP_writeControl 57 = .ok (.getfield 37, 3) := by decide +kernel
theorem dXP_writeControl_60 : decode cXP_writeControl 60 = .ok (.bipush 32, 2) := by decide +kernel
theorem dXP_writeControl_62 : decode cXP_writeControl 62 = .ok (.iand, 1) := by decide +kernel
theorem dXP_writeControl_63 : decode cXP_writeControl 63 = .ok (.ifCond .eq 15, 3) := by decide +kernel
theorem dXP_writeControl_66 : decode cXP_writeControl 66 = .ok (.aload_n 0, 1) := by decide +kernel
theorem dXP_writeControl_67 : decode cXP_writeControl 67 = .ok (.getfield 19, 3) := by decide +kernel
theorem dXP_writeControl_70 : decode cXP_writeControl 70 = .ok (.iconst 1, 1) := by decide +kernel
theorem dXP_writeControl_71 : decode cXP_writeControl 71 = .ok (.iaload, 1) := by decide +kernel
theorem dXP_writeControl_72 : decode cXP_writeControl 72 = .ok (.bipush 16, 2) := by decide +kernel
theorem dXP_writeControl_74 : decode cXP_writeControl 74 = .ok (.iand, 1) := by decide +kernel
theorem dXP_writeControl_75 : decode cXP_writeControl 75 = .ok (.ifCond .ne 4, 3) := by decide +kernel
theorem dXP_writeControl_78 : decode cXP_writeControl 78 = .ok (.return_, 1) := by decide +kernel
theorem dXP_writeControl_79 : decode cXP_writeControl 79 = .ok (.aload_n 0, 1) := by decide +kernel
theorem dXP_writeControl_80 : decode cXP_writeControl 80 = .ok (.getfield 19, 3) := by decide +kernel
theorem dXP_writeControl_83 : decode cXP_writeControl 83 = .ok (.bipush 15, 2) := by decide +kernel
theorem dXP_writeControl_85 : decode cXP_writeControl 85 = .ok (.iaload, 1) := by decide +kernel
theorem dXP_writeControl_86 : decode cXP_writeControl 86 = .ok (.bipush 6, 2) := by decide +kernel
theorem dXP_writeControl_88 : decode cXP_writeControl 88 = .ok (.ishr, 1) := by decide +kernel
theorem dXP_writeControl_89 : decode cXP_writeControl 89 = .ok (.lookupswitch 46 #[(2, 27), (3, 35)], 27) := by decide +kernel
theorem dXP_writeControl_116 : decode cXP_writeControl 116 = .ok (.aload_n 0, 1) := by decide +kernel
theorem dXP_writeControl_117 : decode cXP_writeControl 117 = .ok (.iconst 1, 1) := by decide +kernel
theorem dXP_writeControl_118 : decode cXP_writeControl 118 = .ok (.putfield 40, 3) := by decide +kernel
theorem dXP_writeControl_121 : decode cXP_writeControl 121 = .ok (.goto 32, 3) := by decide +kernel
theorem dXP_writeControl_124 : decode cXP_writeControl 124 = .ok (.aload_n 0, 1) := by decide +kernel
theorem dXP_writeControl_125 : decode cXP_writeControl 125 = .ok (.aload_n 0, 1) := by decide +kernel
theorem dXP_writeControl_126 : decode cXP_writeControl 126 = .ok (.invokevirtual 43, 3) := by decide +kernel
theorem dXP_writeControl_129 : decode cXP_writeControl 129 = .ok (.invokevirtual 47, 3) := by decide +kernel
theorem dXP_writeControl_132 : decode cXP_writeControl 132 = .ok (.goto 21, 3) := by decide +kernel
theorem dXP_writeControl_135 : decode cXP_writeControl 135 = .ok (.aload_n 0, 1) := by decide +kernel
theorem dXP_writeControl_136 : decode cXP_writeControl 136 = .ok (.iconst 2, 1) := by decide +kernel
theorem dXP_writeControl_137 : decode cXP_writeControl 137 = .ok (.aload_n 0, 1) := by decide +kernel
theorem dXP_writeControl_138 : decode cXP_writeControl 138 = .ok (.invokevirtual 50, 3) := by decide +kernel
theorem dXP_writeControl_141 : decode cXP_writeControl 141 = .ok (.imul, 1) := by decide +kernel
theorem dXP_writeControl_142 : decode cXP_writeControl 142 = .ok (.putfield 53, 3) := by decide +kernel
theorem dXP_writeControl_145 : decode cXP_writeControl 145 = .ok (.aload_n 0, 1) := by decide +kernel
theorem dXP_writeControl_146 : decode cXP_writeControl 146 = .ok (.aload_n 0, 1) := by decide +kernel
theorem dXP_writeControl_147 : decode cXP_writeControl 147 = .ok (.invokevirtual 43, 3) := by decide +kernel
theorem dXP_writeControl_150 : decode cXP_writeControl 150 = .ok (.putfield 22, 3) := by decide +kernel
theorem dXP_writeControl_153 : decode cXP_writeControl 153 = .ok (.return_, 1) := by decide +kernel
theorem dXP_writeData_0 : decode cXP_writeData 0 = .ok (.aload_n 0, 1) := by decide +kernel
theorem dXP_writeData_1 : decode cXP_writeData 1 = .ok (.iconst 0, 1) := by decide +kernel
theorem dXP_writeData_2 : decode cXP_writeData 2 = .ok (.putfield 26, 3) := by decide +kernel
theorem dXP_writeData_5 : decode cXP_writeData 5 = .ok (.aload_n 0, 1) := by decide +kernel
theorem dXP_writeData_6 : decode cXP_writeData 6 = .ok (.iload_n 1, 1) := by decide +kernel
theorem dXP_writeData_7 : decode cXP_writeData 7 = .ok (.invokevirtual 56, 3) := by decide +kernel
theorem dXP_writeData_10 : decode cXP_writeData 10 = .ok (.aload_n 0, 1) := by decide +kernel
theorem dXP_writeData_11 : decode cXP_writeData 11 = .ok (.getfield 40, 3) := by decide +kernel
theorem dXP_writeData_14 : decode cXP_writeData 14 = .ok (.ifCond .eq 20, 3) := by decide +kernel
theorem dXP_writeData_17 : decode cXP_writeData 17 = .ok (.aload_n 0, 1) := by decide +kernel
theorem dXP_writeData_18 : decode cXP_writeData 18 = .ok (.iconst 0, 1) := by decide +kernel
theorem dXP_writeData_19 : decode cXP_writeData 19 = .ok (.putfield 40, 3) := by decide +kernel
theorem dXP_writeData_22 : decode cXP_writeData 22 = .ok (.aload_n 0, 1) := by decide +kernel
theorem dXP_writeData_23 : decode cXP_writeData 23 = .ok (.iload_n 1, 1) := by decide +kernel
theorem dXP_writeData_24 : decode cXP_writeData 24 = .ok (.bipush 8, 2) := by decide +kernel
theorem dXP_writeData_26 : decode cXP_writeData 26 = .ok (.ishr, 1) := by decide +kernel
theorem dXP_writeData_27 : decode cXP_writeData 27 = .ok (.aload_n 0, 1) := by decide +kernel
theorem dXP_writeData_28 : decode cXP_writeData 28 = .ok (.invokevirtual 43, 3) := by decide +kernel
theorem dXP_writeData_31 : decode cXP_writeData 31 = .ok (.invokevirtual 59, 3) := by decide +kernel
theorem dXP_writeData_34 : decode cXP_writeData 34 = .ok (.return_, 1) := by decide +kernel
theorem dXP_readData_0 : decode cXP_readData 0 = .ok (.aload_n 0, 1) := by decide +kernel
theorem dXP_readData_1 : decode cXP_readData 1 = .ok (.iconst 0, 1) := by decide +kernel
theorem dXP_readData_2 : decode cXP_readData 2 = .ok (.putfield 26, 3) := by decide +kernel
theorem dXP_readData_5 : decode cXP_readData 5 = .ok (.aload_n 0, 1) := by decide +kernel
theorem dXP_readData_6 : decode cXP_readData 6 = .ok (.getfield 34, 3) := by decide +kernel
theorem dXP_readData_9 : decode cXP_readData 9 = .ok (.iconst 1, 1) := by decide +kernel
theorem dXP_readData_10 : decode cXP_readData 10 = .ok (.ishr, 1) := by decide +kernel
theorem dXP_readData_11 : decode cXP_readData 11 = .ok (.istore_n 1, 1) := by decide +kernel
theorem dXP_readData_12 : decode cXP_readData 12 = .ok (.iconst 0, 1) := by decide +kernel
theorem dXP_readData_13 : decode cXP_readData 13 = .ok (.istore_n 2, 1) := by decide +kernel
theorem dXP_readData_14 : decode cXP_readData 14 = .ok (.aload_n 0, 1) := by decide +kernel
theorem dXP_readData_15 : decode cXP_readData 15 = .ok (.getfield 37, 3) := by decide +kernel
theorem dXP_readData_18 : decode cXP_readData 18 = .ok (.bipush 15, 2) := by decide +kernel
theorem dXP_readData_20 : decode cXP_readData 20 = .ok (.iand, 1) := by decide +kernel
theorem dXP_readData_21 : decode cXP_readData 21 = .ok (.lookupswitch 69 #[(0, 35), (4, 57), (8, 44)], 35) := by decide +kernel
theorem dXP_readData_56 : decode cXP_readData 56 = .ok (.aload_n 0, 1) := by decide +kernel
theorem dXP_readData_57 : decode cXP_readData 57 = .ok (.iload_n 1, 1) := by decide +kernel
theorem dXP_readData_58 : decode cXP_readData 58 = .ok (.invokevirtual 63, 3) := by decide +kernel
theorem dXP_readData_61 : decode cXP_readData 61 = .ok (.istore_n 2, 1) := by decide +kernel
theorem dXP_readData_62 : decode cXP_readData 62 = .ok (.goto 28, 3) := by decide +kernel
theorem dXP_readData_65 : decode cXP_readData 65 = .ok (.aload_n 0, 1) := by decide +kernel
theorem dXP_readData_66 : decode cXP_readData 66 = .ok (.getfield 13, 3) := by decide +kernel
theorem dXP_readData_69 : decode cXP_readData 69 = .ok (.iload_n 1, 1) := by decide +kernel
theorem dXP_readData_70 : decode cXP_readData 70 = .ok (.bipush 15, 2) := by decide +kernel
theorem dXP_readData_72 : decode cXP_readData 72 = .ok (.iand, 1) := by decide +kernel
theorem dXP_readData_73 : decode cXP_readData 73 = .ok (.iaload, 1) := by decide +kernel
theorem dXP_readData_74 : decode cXP_readData 74 = .ok (.istore_n 2, 1) := by decide +kernel
theorem dXP_readData_75 : decode cXP_readData 75 = .ok (.goto 15, 3) := by decide +kernel
theorem dXP_readData_78 : decode cXP_readData 78 = .ok (.aload_n 0, 1) := by decide +kernel
theorem dXP_readData_79 : decode cXP_readData 79 = .ok (.getfield 16, 3) := by decide +kernel
theorem dXP_readData_82 : decode cXP_readData 82 = .ok (.iload_n 1, 1) := by decide +kernel
theorem dXP_readData_83 : decode cXP_readData 83 = .ok (.iconst 1, 1) := by decide +kernel
theorem dXP_readData_84 : decode cXP_readData 84 = .ok (.iand, 1) := by decide +kernel
theorem dXP_readData_85 : decode cXP_readData 85 = .ok (.iaload, 1) := by decide +kernel
theorem dXP_readData_86 : decode cXP_readData 86 = .ok (.istore_n 2, 1) := by decide +kernel
theorem dXP_readData_87 : decode cXP_readData 87 = .ok (.goto 3, 3) := by decide +kernel
theorem dXP_readData_90 : decode cXP_readData 90 = .ok (.aload_n 0, 1) := by decide +kernel
theorem dXP_readData_91 : decode cXP_readData 91 = .ok (.invokevirtual 67, 3) := by decide +kernel
theorem dXP_readData_94 : decode cXP_readData 94 = .ok (.iload_n 2, 1) := by decide +kernel
theorem dXP_readData_95 : decode cXP_readData 95 = .ok (.ireturn, 1) := by decide +kernel
theorem dXP_takeMovedWord_0 : decode cXP_takeMovedWord 0 = .ok (.aload_n 0, 1) := by decide +kernel
theorem dXP_takeMovedWord_1 : decode cXP_takeMovedWord 1 = .ok (.iload_n 1, 1) := by decide +kernel
theorem dXP_takeMovedWord_2 : decode cXP_takeMovedWord 2 = .ok (.invokevirtual 56, 3) := by decide +kernel
theorem dXP_takeMovedWord_5 : decode cXP_takeMovedWord 5 = .ok (.aload_n 0, 1) := by decide +kernel
theorem dXP_takeMovedWord_6 : decode cXP_takeMovedWord 6 = .ok (.aload_n 0, 1) := by decide +kernel
theorem dXP_takeMovedWord_7 : decode cXP_takeMovedWord 7 = .ok (.getfield 53, 3) := by decide +kernel
theorem dXP_takeMovedWord_10 : decode cXP_takeMovedWord 10 = .ok (.ldc 70, 2) := by decide +kernel
theorem dXP_takeMovedWord_12 : decode cXP_takeMovedWord 12 = .ok (.iand, 1) := by decide +kernel
theorem dXP_takeMovedWord_13 : decode cXP_takeMovedWord 13 = .ok (.aload_n 0, 1) := by decide +kernel
theorem dXP_takeMovedWord_14 : decode cXP_takeMovedWord 14 = .ok (.getfield 53, 3) := by decide +kernel
theorem dXP_takeMovedWord_17 : decode cXP_takeMovedWord 17 = .ok (.iconst 2, 1) := by decide +kernel
theorem dXP_takeMovedWord_18 : decode cXP_takeMovedWord 18 = .ok (.iadd, 1) := by decide +kernel
theorem dXP_takeMovedWord_19 : decode cXP_takeMovedWord 19 = .ok (.sipush 1023, 3) := by decide +kernel
theorem dXP_takeMovedWord_22 : decode cXP_takeMovedWord 22 = .ok (.iand, 1) := by decide +kernel
theorem dXP_takeMovedWord_23 : decode cXP_takeMovedWord 23 = .ok (.ior, 1) := by decide +kernel
theorem dXP_takeMovedWord_24 : decode cXP_takeMovedWord 24 = .ok (.putfield 53, 3) := by decide +kernel
theorem dXP_takeMovedWord_27 : decode cXP_takeMovedWord 27 = .ok (.aload_n 0, 1) := by decide +kernel
theorem dXP_takeMovedWord_28 : decode cXP_takeMovedWord 28 = .ok (.dup, 1) := by decide +kernel
theorem dXP_takeMovedWord_29 : decode cXP_takeMovedWord 29 = .ok (.getfield 22, 3) := by decide +kernel
theorem dXP_takeMovedWord_32 : decode cXP_takeMovedWord 32 = .ok (.iconst 1, 1) := by decide +kernel
theorem dXP_takeMovedWord_33 : decode cXP_takeMovedWord 33 = .ok (.isub, 1) := by decide +kernel
theorem dXP_takeMovedWord_34 : decode cXP_takeMovedWord 34 = .ok (.putfield 22, 3) := by decide +kernel
theorem dXP_takeMovedWord_37 : decode cXP_takeMovedWord 37 = .ok (.aload_n 0, 1) := by decide +kernel
theorem dXP_takeMovedWord_38 : decode cXP_takeMovedWord 38 = .ok (.getfield 22, 3) := by decide +kernel
theorem dXP_takeMovedWord_41 : decode cXP_takeMovedWord 41 = .ok (.ifCond .ne 7, 3) := by decide +kernel
theorem dXP_takeMovedWord_44 : decode cXP_takeMovedWord 44 = .ok (.aload_n 0, 1) := by decide +kernel
theorem dXP_takeMovedWord_45 : decode cXP_takeMovedWord 45 = .ok (.invokevirtual 71, 3) := by decide +kernel
theorem dXP_takeMovedWord_48 : decode cXP_takeMovedWord 48 = .ok (.return_, 1) := by decide +kernel
theorem dXP_takeFirstWord_0 : decode cXP_takeFirstWord 0 = .ok (.iload_n 1, 1) := by decide +kernel
theorem dXP_takeFirstWord_1 : decode cXP_takeFirstWord 1 = .ok (.bipush 14, 2) := by decide +kernel
theorem dXP_takeFirstWord_3 : decode cXP_takeFirstWord 3 = .ok (.ishr, 1) := by decide +kernel
theorem dXP_takeFirstWord_4 : decode cXP_takeFirstWord 4 = .ok (.iconst 2, 1) := by decide +kernel
theorem dXP_takeFirstWord_5 : decode cXP_takeFirstWord 5 = .ok (.if_icmp .ne 32, 3) := by decide +kernel
theorem dXP_takeFirstWord_8 : decode cXP_takeFirstWord 8 = .ok (.aload_n 0, 1) := by decide +kernel
theorem dXP_takeFirstWord_9 : decode cXP_takeFirstWord 9 = .ok (.getfield 19, 3) := by decide +kernel
theorem dXP_takeFirstWord_12 : decode cXP_takeFirstWord 12 = .ok (.iload_n 1, 1) := by decide +kernel
theorem dXP_takeFirstWord_13 : decode cXP_takeFirstWord 13 = .ok (.bipush 8, 2) := by decide +kernel
theorem dXP_takeFirstWord_15 : decode cXP_takeFirstWord 15 = .ok (.ishr, 1) := by decide +kernel
theorem dXP_takeFirstWord_16 : decode cXP_takeFirstWord 16 = .ok (.bipush 15, 2) := by decide +kernel
theorem dXP_takeFirstWord_18 : decode cXP_takeFirstWord 18 = .ok (.iand, 1) := by decide +kernel
theorem dXP_takeFirstWord_19 : decode cXP_takeFirstWord 19 = .ok (.iload_n 1, 1) := by decide +kernel
theorem dXP_takeFirstWord_20 : decode cXP_takeFirstWord 20 = .ok (.sipush 255, 3) := by decide +kernel
theorem dXP_takeFirstWord_23 : decode cXP_takeFirstWord 23 = .ok (.iand, 1) := by decide +kernel
theorem dXP_takeFirstWord_24 : decode cXP_takeFirstWord 24 = .ok (.iastore, 1) := by decide +kernel
theorem dXP_takeFirstWord_25 : decode cXP_takeFirstWord 25 = .ok (.aload_n 0, 1) := by decide +kernel
theorem dXP_takeFirstWord_26 : decode cXP_takeFirstWord 26 = .ok (.aload_n 0, 1) := by decide +kernel
theorem dXP_takeFirstWord_27 : decode cXP_takeFirstWord 27 = .ok (.getfield 37, 3) := by decide +kernel
theorem dXP_takeFirstWord_30 : decode cXP_takeFirstWord 30 = .ok (.bipush 60, 2) := by decide +kernel
theorem dXP_takeFirstWord_32 : decode cXP_takeFirstWord 32 = .ok (.iand, 1) := by decide +kernel
theorem dXP_takeFirstWord_33 : decode cXP_takeFirstWord 33 = .ok (.putfield 37, 3) := by decide +kernel
theorem dXP_takeFirstWord_36 : decode cXP_takeFirstWord 36 = .ok (.return_, 1) := by decide +kernel
theorem dXP_takeFirstWord_37 : decode cXP_takeFirstWord 37 = .ok (.aload_n 0, 1) := by decide +kernel
theorem dXP_takeFirstWord_38 : decode cXP_takeFirstWord 38 = .ok (.aload_n 0, 1) := by decide +kernel
theorem dXP_takeFirstWord_39 : decode cXP_takeFirstWord 39 = .ok (.getfield 34, 3) := by decide +kernel
theorem dXP_takeFirstWord_42 : decode cXP_takeFirstWord 42 = .ok (.ldc 74, 2) := by decide +kernel
theorem dXP_takeFirstWord_44 : decode cXP_takeFirstWord 44 = .ok (.iand, 1) := by decide +kernel
theorem dXP_takeFirstWord_45 : decode cXP_takeFirstWord 45 = .ok (.iload_n 1, 1) := by decide +kernel
theorem dXP_takeFirstWord_46 : decode cXP_takeFirstWord 46 = .ok (.sipush 16383, 3) := by decide +kernel
theorem dXP_takeFirstWord_49 : decode cXP_takeFirstWord 49 = .ok (.iand, 1) := by decide +kernel
theorem dXP_takeFirstWord_50 : decode cXP_takeFirstWord 50 = .ok (.ior, 1) := by decide +kernel
theorem dXP_takeFirstWord_51 : decode cXP_takeFirstWord 51 = .ok (.putfield 34, 3) := by decide +kernel
theorem dXP_takeFirstWord_54 : decode cXP_takeFirstWord 54 = .ok (.aload_n 0, 1) := by decide +kernel
theorem dXP_takeFirstWord_55 : decode cXP_takeFirstWord 55 = .ok (.aload_n 0, 1) := by decide +kernel
theorem dXP_takeFirstWord_56 : decode cXP_takeFirstWord 56 = .ok (.getfield 37, 3) := by decide +kernel
theorem dXP_takeFirstWord_59 : decode cXP_takeFirstWord 59 = .ok (.bipush 60, 2) := by decide +kernel
theorem dXP_takeFirstWord_61 : decode cXP_takeFirstWord 61 = .ok (.iand, 1) := by decide +kernel
theorem dXP_takeFirstWord_62 : decode cXP_takeFirstWord 62 = .ok (.iload_n 1, 1) := by decide +kernel
theorem dXP_takeFirstWord_63 : decode cXP_takeFirstWord 63 = .ok (.bipush 14, 2) := by decide +kernel
theorem dXP_takeFirstWord_65 : decode cXP_takeFirstWord 65 = .ok (.ishr, 1) := by decide +kernel
theorem dXP_takeFirstWord_66 : decode cXP_takeFirstWord 66 = .ok (.ior, 1) := by decide +kernel
theorem dXP_takeFirstWord_67 : decode cXP_takeFirstWord 67 = .ok (.putfield 37, 3) := by decide +kernel
theorem dXP_takeFirstWord_70 : decode cXP_takeFirstWord 70 = .ok (.aload_n 0, 1) := by decide +kernel
theorem dXP_takeFirstWord_71 : decode cXP_takeFirstWord 71 = .ok (.iconst 1, 1) := by decide +kernel
theorem dXP_takeFirstWord_72 : decode cXP_takeFirstWord 72 = .ok (.putfield 26, 3) := by decide +kernel
theorem dXP_takeFirstWord_75 : decode cXP_takeFirstWord 75 = .ok (.return_, 1) := by decide +kernel
theorem dXP_halfSource_0 : decode cXP_halfSource 0 = .ok (.aload_n 0, 1) := by decide +kernel
theorem dXP_halfSource_1 : decode cXP_halfSource 1 = .ok (.getfield 19, 3) := by decide +kernel
theorem dXP_halfSource_4 : decode cXP_halfSource 4 = .ok (.bipush 10, 2) := by decide +kernel
theorem dXP_halfSource_6 : decode cXP_halfSource 6 = .ok (.iaload, 1) := by decide +kernel
theorem dXP_halfSource_7 : decode cXP_halfSource 7 = .ok (.bipush 127, 2) := by decide +kernel
theorem dXP_halfSource_9 : decode cXP_halfSource 9 = .ok (.iand, 1) := by decide +kernel
theorem dXP_halfSource_10 : decode cXP_halfSource 10 = .ok (.sipush 256, 3) := by decide +kernel
theorem dXP_halfSource_13 : decode cXP_halfSource 13 = .ok (.imul, 1) := by decide +kernel
theorem dXP_halfSource_14 : decode cXP_halfSource 14 = .ok (.aload_n 0, 1) := by decide +kernel
theorem dXP_halfSource_15 : decode cXP_halfSource 15 = .ok (.getfield 19, 3) := by decide +kernel
theorem dXP_halfSource_18 : decode cXP_halfSource 18 = .ok (.bipush 9, 2) := by decide +kernel
theorem dXP_halfSource_20 : decode cXP_halfSource 20 = .ok (.iaload, 1) := by decide +kernel
theorem dXP_halfSource_21 : decode cXP_halfSource 21 = .ok (.iadd, 1) := by decide +kernel
theorem dXP_halfSource_22 : decode cXP_halfSource 22 = .ok (.ireturn, 1) := by decide +kernel
theorem dXP_moveLength_0 : decode cXP_moveLength 0 = .ok (.aload_n 0, 1) := by decide +kernel
theorem dXP_moveLength_1 : decode cXP_moveLength 1 = .ok (.getfield 19, 3) := by decide +kernel
theorem dXP_moveLength_4 : decode cXP_moveLength 4 = .ok (.bipush 12, 2) := by decide +kernel
theorem dXP_moveLength_6 : decode cXP_moveLength 6 = .ok (.iaload, 1) := by decide +kernel
theorem dXP_moveLength_7 : decode cXP_moveLength 7 = .ok (.sipush 256, 3) := by decide +kernel
theorem dXP_moveLength_10 : decode cXP_moveLength 10 = .ok (.imul, 1) := by decide +kernel
theorem dXP_moveLength_11 : decode cXP_moveLength 11 = .ok (.aload_n 0, 1) := by decide +kernel
theorem dXP_moveLength_12 : decode cXP_moveLength 12 = .ok (.getfield 19, 3) := by decide +kernel
theorem dXP_moveLength_15 : decode cXP_moveLength 15 = .ok (.bipush 11, 2) := by decide +kernel
theorem dXP_moveLength_17 : decode cXP_moveLength 17 = .ok (.iaload, 1) := by decide +kernel
theorem dXP_moveLength_18 : decode cXP_moveLength 18 = .ok (.iadd, 1) := by decide +kernel
theorem dXP_moveLength_19 : decode cXP_moveLength 19 = .ok (.sipush 511, 3) := by decide +kernel
theorem dXP_moveLength_22 : decode cXP_moveLength 22 = .ok (.iand, 1) := by decide +kernel
theorem dXP_moveLength_23 : decode cXP_moveLength 23 = .ok (.istore_n 1, 1) := by decide +kernel
theorem dXP_moveLength_24 : decode cXP_moveLength 24 = .ok (.iload_n 1, 1) := by decide +kernel
theorem dXP_moveLength_25 : decode cXP_moveLength 25 = .ok (.ifCond .ne 9, 3) := by decide +kernel
theorem dXP_moveLength_28 : decode cXP_moveLength 28 = .ok (.sipush 512, 3) := by decide +kernel
theorem dXP_moveLength_31 : decode cXP_moveLength 31 = .ok (.goto 4, 3) := by decide +kernel
theorem dXP_moveLength_34 : decode cXP_moveLength 34 = .ok (.iload_n 1, 1) := by decide +kernel
theorem dXP_moveLength_35 : decode cXP_moveLength 35 = .ok (.ireturn, 1) := by decide +kernel
theorem dXP_endMove_0 : decode cXP_endMove 0 = .ok (.aload_n 0, 1) := by decide +kernel
theorem dXP_endMove_1 : decode cXP_endMove 1 = .ok (.getfield 19, 3) := by decide +kernel
theorem dXP_endMove_4 : decode cXP_endMove 4 = .ok (.bipush 11, 2) := by decide +kernel
theorem dXP_endMove_6 : decode cXP_endMove 6 = .ok (.iconst 0, 1) := by decide +kernel
theorem dXP_endMove_7 : decode cXP_endMove 7 = .ok (.iastore, 1) := by decide +kernel
theorem dXP_endMove_8 : decode cXP_endMove 8 = .ok (.aload_n 0, 1) := by decide +kernel
theorem dXP_endMove_9 : decode cXP_endMove 9 = .ok (.getfield 19, 3) := by decide +kernel
theorem dXP_endMove_12 : decode cXP_endMove 12 = .ok (.bipush 12, 2) := by decide +kernel
theorem dXP_endMove_14 : decode cXP_endMove 14 = .ok (.iconst 0, 1) := by decide +kernel
theorem dXP_endMove_15 : decode cXP_endMove 15 = .ok (.iastore, 1) := by decide +kernel
theorem dXP_endMove_16 : decode cXP_endMove 16 = .ok (.return_, 1) := by decide +kernel
theorem dXP_growAddress_0 : decode cXP_growAddress 0 = .ok (.aload_n 0, 1) := by decide +kernel
theorem dXP_growAddress_1 : decode cXP_growAddress 1 = .ok (.aload_n 0, 1) := by decide +kernel
theorem dXP_growAddress_2 : decode cXP_growAddress 2 = .ok (.getfield 34, 3) := by decide +kernel
theorem dXP_growAddress_5 : decode cXP_growAddress 5 = .ok (.aload_n 0, 1) := by decide +kernel
theorem dXP_growAddress_6 : decode cXP_growAddress 6 = .ok (.getfield 19, 3) := by decide +kernel
theorem dXP_growAddress_9 : decode cXP_growAddress 9 = .ok (.bipush 14, 2) := by decide +kernel
theorem dXP_growAddress_11 : decode cXP_growAddress 11 = .ok (.iaload, 1) := by decide +kernel
theorem dXP_growAddress_12 : decode cXP_growAddress 12 = .ok (.iadd, 1) := by decide +kernel
theorem dXP_growAddress_13 : decode cXP_growAddress 13 = .ok (.ldc 75, 2) := by decide +kernel
theorem dXP_growAddress_15 : decode cXP_growAddress 15 = .ok (.iand, 1) := by decide +kernel
theorem dXP_growAddress_16 : decode cXP_growAddress 16 = .ok (.putfield 34, 3) := by decide +kernel
theorem dXP_growAddress_19 : decode cXP_growAddress 19 = .ok (.return_, 1) := by decide +kernel
theorem dXP_storeWord_0 : decode cXP_storeWord 0 = .ok (.aload_n 0, 1) := by decide +kernel
theorem dXP_storeWord_1 : decode cXP_storeWord 1 = .ok (.getfield 34, 3) := by decide +kernel
theorem dXP_storeWord_4 : decode cXP_storeWord 4 = .ok (.iconst 1, 1) := by decide +kernel
theorem dXP_storeWord_5 : decode cXP_storeWord 5 = .ok (.ishr, 1) := by decide +kernel
theorem dXP_storeWord_6 : decode cXP_storeWord 6 = .ok (.istore_n 2, 1) := by decide +kernel
theorem dXP_storeWord_7 : decode cXP_storeWord 7 = .ok (.aload_n 0, 1) := by decide +kernel
theorem dXP_storeWord_8 : decode cXP_storeWord 8 = .ok (.getfield 37, 3) := by decide +kernel
theorem dXP_storeWord_11 : decode cXP_storeWord 11 = .ok (.bipush 15, 2) := by decide +kernel
theorem dXP_storeWord_13 : decode cXP_storeWord 13 = .ok (.iand, 1) := by decide +kernel
theorem dXP_storeWord_14 : decode cXP_storeWord 14 = .ok (.tableswitch 99 1 5 #[34, 99, 74, 99, 87], 34) := by decide +kernel
theorem dXP_storeWord_48 : decode cXP_storeWord 48 = .ok (.aload_n 0, 1) := by decide +kernel
theorem dXP_storeWord_49 : decode cXP_storeWord 49 = .ok (.getfield 7, 3) := by decide +kernel
theorem dXP_storeWord_52 : decode cXP_storeWord 52 = .ok (.aload_n 0, 1) := by decide +kernel
theorem dXP_storeWord_53 : decode cXP_storeWord 53 = .ok (.getfield 34, 3) := by decide +kernel
theorem dXP_storeWord_56 : decode cXP_storeWord 56 = .ok (.sipush 1023, 3) := by decide +kernel
theorem dXP_storeWord_59 : decode cXP_storeWord 59 = .ok (.iand, 1) := by decide +kernel
theorem dXP_storeWord_60 : decode cXP_storeWord 60 = .ok (.iload_n 1, 1) := by decide +kernel
theorem dXP_storeWord_61 : decode cXP_storeWord 61 = .ok (.bipush 8, 2) := by decide +kernel
theorem dXP_storeWord_63 : decode cXP_storeWord 63 = .ok (.ishr, 1) := by decide +kernel
theorem dXP_storeWord_64 : decode cXP_storeWord 64 = .ok (.iastore, 1) := by decide +kernel
theorem dXP_storeWord_65 : decode cXP_storeWord 65 = .ok (.aload_n 0, 1) := by decide +kernel
theorem dXP_storeWord_66 : decode cXP_storeWord 66 = .ok (.getfield 7, 3) := by decide +kernel
theorem dXP_storeWord_69 : decode cXP_storeWord 69 = .ok (.aload_n 0, 1) := by decide +kernel
theorem dXP_storeWord_70 : decode cXP_storeWord 70 = .ok (.getfield 34, 3) := by decide +kernel
theorem dXP_storeWord_73 : decode cXP_storeWord 73 = .ok (.iconst 1, 1) := by decide +kernel
theorem dXP_storeWord_74 : decode cXP_storeWord 74 = .ok (.ixor, 1) := by decide +kernel
theorem dXP_storeWord_75 : decode cXP_storeWord 75 = .ok (.sipush 1023, 3) := by decide +kernel
theorem dXP_storeWord_78 : decode cXP_storeWord 78 = .ok (.iand, 1) := by decide +kernel
theorem dXP_storeWord_79 : decode cXP_storeWord 79 = .ok (.iload_n 1, 1) := by decide +kernel
theorem dXP_storeWord_80 : decode cXP_storeWord 80 = .ok (.sipush 255, 3) := by decide +kernel
theorem dXP_storeWord_83 : decode cXP_storeWord 83 = .ok (.iand, 1) := by decide +kernel
theorem dXP_storeWord_84 : decode cXP_storeWord 84 = .ok (.iastore, 1) := by decide +kernel
theorem dXP_storeWord_85 : decode cXP_storeWord 85 = .ok (.goto 28, 3) := by decide +kernel
theorem dXP_storeWord_88 : decode cXP_storeWord 88 = .ok (.aload_n 0, 1) := by decide +kernel
theorem dXP_storeWord_89 : decode cXP_storeWord 89 = .ok (.getfield 13, 3) := by decide +kernel
theorem dXP_storeWord_92 : decode cXP_storeWord 92 = .ok (.iload_n 2, 1) := by decide +kernel
theorem dXP_storeWord_93 : decode cXP_storeWord 93 = .ok (.bipush 15, 2) := by decide +kernel
theorem dXP_storeWord_95 : decode cXP_storeWord 95 = .ok (.iand, 1) := by decide +kernel
theorem dXP_storeWord_96 : decode cXP_storeWord 96 = .ok (.iload_n 1, 1) := by decide +kernel
theorem dXP_storeWord_97 : decode cXP_storeWord 97 = .ok (.iastore, 1) := by decide +kernel
theorem dXP_storeWord_98 : decode cXP_storeWord 98 = .ok (.goto 15, 3) := by decide +kernel
theorem dXP_storeWord_101 : decode cXP_storeWord 101 = .ok (.aload_n 0, 1) := by decide +kernel
theorem dXP_storeWord_102 : decode cXP_storeWord 102 = .ok (.getfield 16, 3) := by decide +kernel
theorem dXP_storeWord_105 : decode cXP_storeWord 105 = .ok (.iload_n 2, 1) := by decide +kernel
theorem dXP_storeWord_106 : decode cXP_storeWord 106 = .ok (.iconst 1, 1) := by decide +kernel
theorem dXP_storeWord_107 : decode cXP_storeWord 107 = .ok (.iand, 1) := by decide +kernel
theorem dXP_storeWord_108 : decode cXP_storeWord 108 = .ok (.iload_n 1, 1) := by decide +kernel
theorem dXP_storeWord_109 : decode cXP_storeWord 109 = .ok (.iastore, 1) := by decide +kernel
theorem dXP_storeWord_110 : decode cXP_storeWord 110 = .ok (.goto 3, 3) := by decide +kernel
theorem dXP_storeWord_113 : decode cXP_storeWord 113 = .ok (.aload_n 0, 1) := by decide +kernel
theorem dXP_storeWord_114 : decode cXP_storeWord 114 = .ok (.invokevirtual 67, 3) := by decide +kernel
theorem dXP_storeWord_117 : decode cXP_storeWord 117 = .ok (.return_, 1) := by decide +kernel
theorem dXP_fill_0 : decode cXP_fill 0 = .ok (.iconst 0, 1) := by decide +kernel
theorem dXP_fill_1 : decode cXP_fill 1 = .ok (.istore_n 3, 1) := by decide +kernel
theorem dXP_fill_2 : decode cXP_fill 2 = .ok (.iload_n 3, 1) := by decide +kernel
theorem dXP_fill_3 : decode cXP_fill 3 = .ok (.iload_n 2, 1) := by decide +kernel
theorem dXP_fill_4 : decode cXP_fill 4 = .ok (.if_icmp .ge 29, 3) := by decide +kernel
theorem dXP_fill_7 : decode cXP_fill 7 = .ok (.aload_n 0, 1) := by decide +kernel
theorem dXP_fill_8 : decode cXP_fill 8 = .ok (.getfield 7, 3) := by decide +kernel
theorem dXP_fill_11 : decode cXP_fill 11 = .ok (.aload_n 0, 1) := by decide +kernel
theorem dXP_fill_12 : decode cXP_fill 12 = .ok (.getfield 34, 3) := by decide +kernel
theorem dXP_fill_15 : decode cXP_fill 15 = .ok (.iconst 1, 1) := by decide +kernel
theorem dXP_fill_16 : decode cXP_fill 16 = .ok (.ixor, 1) := by decide +kernel
theorem dXP_fill_17 : decode cXP_fill 17 = .ok (.sipush 1023, 3) := by decide +kernel
theorem dXP_fill_20 : decode cXP_fill 20 = .ok (.iand, 1) := by decide +kernel
theorem dXP_fill_21 : decode cXP_fill 21 = .ok (.iload_n 1, 1) := by decide +kernel
theorem dXP_fill_22 : decode cXP_fill 22 = .ok (.iastore, 1) := by decide +kernel
theorem dXP_fill_23 : decode cXP_fill 23 = .ok (.aload_n 0, 1) := by decide +kernel
theorem dXP_fill_24 : decode cXP_fill 24 = .ok (.invokevirtual 67, 3) := by decide +kernel
theorem dXP_fill_27 : decode cXP_fill 27 = .ok (.iinc 3 1, 3) := by decide +kernel
theorem dXP_fill_30 : decode cXP_fill 30 = .ok (.goto (-28), 3) := by decide +kernel
theorem dXP_fill_33 : decode cXP_fill 33 = .ok (.aload_n 0, 1) := by decide +kernel
theorem dXP_fill_34 : decode cXP_fill 34 = .ok (.invokevirtual 71, 3) := by decide +kernel
theorem dXP_fill_37 : decode cXP_fill 37 = .ok (.return_, 1) := by decide +kernel
theorem dXP_copy_0 : decode cXP_copy 0 = .ok (.aload_n 0, 1) := by decide +kernel
theorem dXP_copy_1 : decode cXP_copy 1 = .ok (.invokevirtual 50, 3) := by decide +kernel
theorem dXP_copy_4 : decode cXP_copy 4 = .ok (.istore_n 2, 1) := by decide +kernel
theorem dXP_copy_5 : decode cXP_copy 5 = .ok (.iconst 0, 1) := by decide +kernel
theorem dXP_copy_6 : decode cXP_copy 6 = .ok (.istore_n 3, 1) := by decide +kernel
theorem dXP_copy_7 : decode cXP_copy 7 = .ok (.iload_n 3, 1) := by decide +kernel
theorem dXP_copy_8 : decode cXP_copy 8 = .ok (.iload_n 1, 1) := by decide +kernel
theorem dXP_copy_9 : decode cXP_copy 9 = .ok (.if_icmp .ge 38, 3) := by decide +kernel
theorem dXP_copy_12 : decode cXP_copy 12 = .ok (.aload_n 0, 1) := by decide +kernel
theorem dXP_copy_13 : decode cXP_copy 13 = .ok (.getfield 7, 3) := by decide +kernel
theorem dXP_copy_16 : decode cXP_copy 16 = .ok (.aload_n 0, 1) := by decide +kernel
theorem dXP_copy_17 : decode cXP_copy 17 = .ok (.getfield 34, 3) := by decide +kernel
theorem dXP_copy_20 : decode cXP_copy 20 = .ok (.sipush 1023, 3) := by decide +kernel
theorem dXP_copy_23 : decode cXP_copy 23 = .ok (.iand, 1) := by decide +kernel
theorem dXP_copy_24 : decode cXP_copy 24 = .ok (.aload_n 0, 1) := by decide +kernel
theorem dXP_copy_25 : decode cXP_copy 25 = .ok (.getfield 7, 3) := by decide +kernel
theorem dXP_copy_28 : decode cXP_copy 28 = .ok (.iload_n 2, 1) := by decide +kernel
theorem dXP_copy_29 : decode cXP_copy 29 = .ok (.iload_n 3, 1) := by decide +kernel
theorem dXP_copy_30 : decode cXP_copy 30 = .ok (.iadd, 1) := by decide +kernel
theorem dXP_copy_31 : decode cXP_copy 31 = .ok (.sipush 1023, 3) := by decide +kernel
theorem dXP_copy_34 : decode cXP_copy 34 = .ok (.iand, 1) := by decide +kernel
theorem dXP_copy_35 : decode cXP_copy 35 = .ok (.iaload, 1) := by decide +kernel
theorem dXP_copy_36 : decode cXP_copy 36 = .ok (.iastore, 1) := by decide +kernel
theorem dXP_copy_37 : decode cXP_copy 37 = .ok (.aload_n 0, 1) := by decide +kernel
theorem dXP_copy_38 : decode cXP_copy 38 = .ok (.invokevirtual 67, 3) := by decide +kernel
theorem dXP_copy_41 : decode cXP_copy 41 = .ok (.iinc 3 1, 3) := by decide +kernel
theorem dXP_copy_44 : decode cXP_copy 44 = .ok (.goto (-37), 3) := by decide +kernel
theorem dXP_copy_47 : decode cXP_copy 47 = .ok (.aload_n 0, 1) := by decide +kernel
theorem dXP_copy_48 : decode cXP_copy 48 = .ok (.invokevirtual 71, 3) := by decide +kernel
theorem dXP_copy_51 : decode cXP_copy 51 = .ok (.return_, 1) := by decide +kernel
theorem dXS_init_0 : decode cXS_init 0 = .ok (.aload_n 0, 1) := by decide +kernel
theorem dXS_init_1 : decode cXS_init 1 = .ok (.invokespecial 1, 3) := by decide +kernel
theorem dXS_init_4 : decode cXS_init 4 = .ok (.aload_n 0, 1) := by decide +kernel
theorem dXS_init_5 : decode cXS_init 5 = .ok (.aload_n 1, 1) := by decide +kernel
theorem dXS_init_6 : decode cXS_init 6 = .ok (.putfield 7, 3) := by decide +kernel
theorem dXS_init_9 : decode cXS_init 9 = .ok (.aload_n 0, 1) := by decide +kernel
theorem dXS_init_10 : decode cXS_init 10 = .ok (.sipush 128, 3) := by decide +kernel
theorem dXS_init_13 : decode cXS_init 13 = .ok (.newarray .int, 2) := by decide +kernel
theorem dXS_init_15 : decode cXS_init 15 = .ok (.putfield 13, 3) := by decide +kernel
theorem dXS_init_18 : decode cXS_init 18 = .ok (.aload_n 0, 1) := by decide +kernel
theorem dXS_init_19 : decode cXS_init 19 = .ok (.iconst 1, 1) := by decide +kernel
theorem dXS_init_20 : decode cXS_init 20 = .ok (.putfield 16, 3) := by decide +kernel
theorem dXS_init_23 : decode cXS_init 23 = .ok (.return_, 1) := by decide +kernel
theorem dXS_stands_0 : decode cXS_stands 0 = .ok (.aload_n 0, 1) := by decide +kernel
theorem dXS_stands_1 : decode cXS_stands 1 = .ok (.getfield 20, 3) := by decide +kernel
theorem dXS_stands_4 : decode cXS_stands 4 = .ok (.ifCond .ne 10, 3) := by decide +kernel
theorem dXS_stands_7 : decode cXS_stands 7 = .ok (.aload_n 0, 1) := by decide +kernel
theorem dXS_stands_8 : decode cXS_stands 8 = .ok (.getfield 16, 3) := by decide +kernel
theorem dXS_stands_11 : decode cXS_stands 11 = .ok (.ifCond .eq 7, 3) := by decide +kernel
theorem dXS_stands_14 : decode cXS_stands 14 = .ok (.iconst 1, 1) := by decide +kernel
theorem dXS_stands_15 : decode cXS_stands 15 = .ok (.goto 4, 3) := by decide +kernel
theorem dXS_stands_18 : decode cXS_stands 18 = .ok (.iconst 0, 1) := by decide +kernel
theorem dXS_stands_19 : decode cXS_stands 19 = .ok (.ireturn, 1) := by decide +kernel
theorem dXS_stateBits_0 : decode cXS_stateBits 0 = .ok (.aload_n 0, 1) := by decide +kernel
theorem dXS_stateBits_1 : decode cXS_stateBits 1 = .ok (.getfield 23, 3) := by decide +kernel
theorem dXS_stateBits_4 : decode cXS_stateBits 4 = .ok (.ifCond .eq 7, 3) := by decide +kernel
theorem dXS_stateBits_7 : decode cXS_stateBits 7 = .ok (.iconst 1, 1) := by decide +kernel
theorem dXS_stateBits_8 : decode cXS_stateBits 8 = .ok (.goto 4, 3) := by decide +kernel
theorem dXS_stateBits_11 : decode cXS_stateBits 11 = .ok (.iconst 0, 1) := by decide +kernel
theorem dXS_stateBits_12 : decode cXS_stateBits 12 = .ok (.aload_n 0, 1) := by decide +kernel
theorem dXS_stateBits_13 : decode cXS_stateBits 13 = .ok (.getfield 26, 3) := by decide +kernel
theorem dXS_stateBits_16 : decode cXS_stateBits 16 = .ok (.ifCond .eq 7, 3) := by decide +kernel
theorem dXS_stateBits_19 : decode cXS_stateBits 19 = .ok (.iconst 2, 1) := by decide +kernel
theorem dXS_stateBits_20 : decode cXS_stateBits 20 = .ok (.goto 4, 3) := by decide +kernel
theorem dXS_stateBits_23 : decode cXS_stateBits 23 = .ok (.iconst 0, 1) := by decide +kernel
theorem dXS_stateBits_24 : decode cXS_stateBits 24 = .ok (.iadd, 1) := by decide +kernel
theorem dXS_stateBits_25 : decode cXS_stateBits 25 = .ok (.aload_n 0, 1) := by decide +kernel
theorem dXS_stateBits_26 : decode cXS_stateBits 26 = .ok (.getfield 29, 3) := by decide +kernel
theorem dXS_stateBits_29 : decode cXS_stateBits 29 = .ok (.ifCond .eq 7, 3) := by decide +kernel
theorem dXS_stateBits_32 : decode cXS_stateBits 32 = .ok (.iconst 4, 1) := by decide +kernel
theorem dXS_stateBits_33 : decode cXS_stateBits 33 = .ok (.goto 4, 3) := by decide +kernel
theorem dXS_stateBits_36 : decode cXS_stateBits 36 = .ok (.iconst 0, 1) := by decide +kernel
theorem dXS_stateBits_37 : decode cXS_stateBits 37 = .ok (.iadd, 1) := by decide +kernel
theorem dXS_stateBits_38 : decode cXS_stateBits 38 = .ok (.aload_n 0, 1) := by decide +kernel
theorem dXS_stateBits_39 : decode cXS_stateBits 39 = .ok (.getfield 20, 3) := by decide +kernel
theorem dXS_stateBits_42 : decode cXS_stateBits 42 = .ok (.ifCond .eq 8, 3) := by decide +kernel
theorem dXS_stateBits_45 : decode cXS_stateBits 45 = .ok (.bipush 8, 2) := by decide +kernel
theorem dXS_stateBits_47 : decode cXS_stateBits 47 = .ok (.goto 4, 3) := by decide +kernel
theorem dXS_stateBits_50 : decode cXS_stateBits 50 = .ok (.iconst 0, 1) := by decide +kernel
theorem dXS_stateBits_51 : decode cXS_stateBits 51 = .ok (.iadd, 1) := by decide +kernel
theorem dXS_stateBits_52 : decode cXS_stateBits 52 = .ok (.aload_n 0, 1) := by decide +kernel
theorem dXS_stateBits_53 : decode cXS_stateBits 53 = .ok (.getfield 16, 3) := by decide +kernel
theorem dXS_stateBits_56 : decode cXS_stateBits 56 = .ok (.ifCond .eq 8, 3) := by decide +kernel
theorem dXS_stateBits_59 : decode cXS_stateBits 59 = .ok (.bipush 16, 2) := by decide +kernel
theorem dXS_stateBits_61 : decode cXS_stateBits 61 = .ok (.goto 4, 3) := by decide +kernel
theorem dXS_stateBits_64 : decode cXS_stateBits 64 = .ok (.iconst 0, 1) := by decide +kernel
theorem dXS_stateBits_65 : decode cXS_stateBits 65 = .ok (.iadd, 1) := by decide +kernel
theorem dXS_stateBits_66 : decode cXS_stateBits 66 = .ok (.ireturn, 1) := by decide +kernel
theorem dXS_takeMainLate_0 : decode cXS_takeMainLate 0 = .ok (.aload_n 0, 1) := by decide +kernel
theorem dXS_takeMainLate_1 : decode cXS_takeMainLate 1 = .ok (.getfield 32, 3) := by decide +kernel
theorem dXS_takeMainLate_4 : decode cXS_takeMainLate 4 = .ok (.istore_n 1, 1) := by decide +kernel
theorem dXS_takeMainLate_5 : decode cXS_takeMainLate 5 = .ok (.aload_n 0, 1) := by decide +kernel
theorem dXS_takeMainLate_6 : decode cXS_takeMainLate 6 = .ok (.iconst 0, 1) := by decide +kernel
theorem dXS_takeMainLate_7 : decode cXS_takeMainLate 7 = .ok (.putfield 32, 3) := by decide +kernel
theorem dXS_takeMainLate_10 : decode cXS_takeMainLate 10 = .ok (.iload_n 1, 1) := by decide +kernel
theorem dXS_takeMainLate_11 : decode cXS_takeMainLate 11 = .ok (.ireturn, 1) := by decide +kernel
theorem dXS_setReset_0 : decode cXS_setReset 0 = .ok (.aload_n 0, 1) := by decide +kernel
theorem dXS_setReset_1 : decode cXS_setReset 1 = .ok (.getfield 16, 3) := by decide +kernel
theorem dXS_setReset_4 : decode cXS_setReset 4 = .ok (.ifCond .eq 47, 3) := by decide +kernel
theorem dXS_setReset_7 : decode cXS_setReset 7 = .ok (.iload_n 1, 1) := by decide +kernel
theorem dXS_setReset_8 : decode cXS_setReset 8 = .ok (.ifCond .ne 43, 3) := by decide +kernel
theorem dXS_setReset_11 : decode cXS_setReset 11 = .ok (.aload_n 0, 1) := by decide +kernel
theorem dXS_setReset_12 : decode cXS_setReset 12 = .ok (.iconst 0, 1) := by decide +kernel
theorem dXS_setReset_13 : decode cXS_setReset 13 = .ok (.putfield 36, 3) := by decide +kernel
theorem dXS_setReset_16 : decode cXS_setReset 16 = .ok (.aload_n 0, 1) := by decide +kernel
theorem dXS_setReset_17 : decode cXS_setReset 17 = .ok (.iconst 0, 1) := by decide +kernel
theorem dXS_setReset_18 : decode cXS_setReset 18 = .ok (.putfield 39, 3) := by decide +kernel
theorem dXS_setReset_21 : decode cXS_setReset 21 = .ok (.aload_n 0, 1) := by decide +kernel
theorem dXS_setReset_22 : decode cXS_setReset 22 = .ok (.iconst 0, 1) := by decide +kernel
theorem dXS_setReset_23 : decode cXS_setReset 23 = .ok (.putfield 42, 3) := by decide +kernel
theorem dXS_setReset_26 : decode cXS_setReset 26 = .ok (.aload_n 0, 1) := by decide +kernel
theorem dXS_setReset_27 : decode cXS_setReset 27 = .ok (.iconst 0, 1) := by decide +kernel
theorem dXS_setReset_28 : decode cXS_setReset 28 = .ok (.putfield 45, 3) := by decide +kernel
theorem dXS_setReset_31 : decode cXS_setReset 31 = .ok (.aload_n 0, 1) := by decide +kernel
theorem dXS_setReset_32 : decode cXS_setReset 32 = .ok (.iconst 0, 1) := by decide +kernel
theorem dXS_setReset_33 : decode cXS_setReset 33 = .ok (.putfield 23, 3) := by decide +kernel
theorem dXS_setReset_36 : decode cXS_setReset 36 = .ok (.aload_n 0, 1) := by decide +kernel
theorem dXS_setReset_37 : decode cXS_setReset 37 = .ok (.iconst 0, 1) := by decide +kernel
theorem dXS_setReset_38 : decode cXS_setReset 38 = .ok (.putfield 26, 3) := by decide +kernel
theorem dXS_setReset_41 : decode cXS_setReset 41 = .ok (.aload_n 0, 1) := by decide +kernel
theorem dXS_setReset_42 : decode cXS_setReset 42 = .ok (.iconst 0, 1) := by decide +kernel
theorem dXS_setReset_43 : decode cXS_setReset 43 = .ok (.putfield 29, 3) := by decide +kernel
theorem dXS_setReset_46 : decode cXS_setReset 46 = .ok (.aload_n 0, 1) := by decide +kernel
theorem dXS_setReset_47 : decode cXS_setReset 47 = .ok (.iconst 0, 1) := by decide +kernel
theorem dXS_setReset_48 : decode cXS_setReset 48 = .ok (.putfield 48, 3) := by decide +kernel
theorem dXS_setReset_51 : decode cXS_setReset 51 = .ok (.aload_n 0, 1) := by decide +kernel
theorem dXS_setReset_52 : decode cXS_setReset 52 = .ok (.iload_n 1, 1) := by decide +kernel
theorem dXS_setReset_53 : decode cXS_setReset 53 = .ok (.putfield 16, 3) := by decide +kernel
theorem dXS_setReset_56 : decode cXS_setReset 56 = .ok (.return_, 1) := by decide +kernel
theorem dXS_tellLine8_0 : decode cXS_tellLine8 0 = .ok (.aload_n 0, 1) := by decide +kernel
theorem dXS_tellLine8_1 : decode cXS_tellLine8 1 = .ok (.invokevirtual 51, 3) := by decide +kernel
theorem dXS_tellLine8_4 : decode cXS_tellLine8 4 = .ok (.ifCond .ne 10, 3) := by decide +kernel
theorem dXS_tellLine8_7 : decode cXS_tellLine8 7 = .ok (.aload_n 0, 1) := by decide +kernel
theorem dXS_tellLine8_8 : decode cXS_tellLine8 8 = .ok (.getfield 29, 3) := by decide +kernel
theorem dXS_tellLine8_11 : decode cXS_tellLine8 11 = .ok (.ifCond .ne 4, 3) := by decide +kernel
theorem dXS_tellLine8_14 : decode cXS_tellLine8 14 = .ok (.return_, 1) := by decide +kernel
theorem dXS_tellLine8_15 : decode cXS_tellLine8 15 = .ok (.aload_n 0, 1) := by decide +kernel
theorem dXS_tellLine8_16 : decode cXS_tellLine8 16 = .ok (.aload_n 0, 1) := by decide +kernel
theorem dXS_tellLine8_17 : decode cXS_tellLine8 17 = .ok (.getfield 45, 3) := by decide +kernel
theorem dXS_tellLine8_20 : decode cXS_tellLine8 20 = .ok (.sipush 255, 3) := by decide +kernel
theorem dXS_tellLine8_23 : decode cXS_tellLine8 23 = .ok (.iand, 1) := by decide +kernel
theorem dXS_tellLine8_24 : decode cXS_tellLine8 24 = .ok (.putfield 42, 3) := by decide +kernel
theorem dXS_tellLine8_27 : decode cXS_tellLine8 27 = .ok (.aload_n 0, 1) := by decide +kernel
theorem dXS_tellLine8_28 : decode cXS_tellLine8 28 = .ok (.bipush 56, 2) := by decide +kernel
theorem dXS_tellLine8_30 : decode cXS_tellLine8 30 = .ok (.putfield 45, 3) := by decide +kernel
theorem dXS_tellLine8_33 : decode cXS_tellLine8 33 = .ok (.aload_n 0, 1) := by decide +kernel
theorem dXS_tellLine8_34 : decode cXS_tellLine8 34 = .ok (.iconst 0, 1) := by decide +kernel
theorem dXS_tellLine8_35 : decode cXS_tellLine8 35 = .ok (.putfield 29, 3) := by decide +kernel
theorem dXS_tellLine8_38 : decode cXS_tellLine8 38 = .ok (.aload_n 0, 1) := by decide +kernel
theorem dXS_tellLine8_39 : decode cXS_tellLine8 39 = .ok (.iconst 0, 1) := by decide +kernel
theorem dXS_tellLine8_40 : decode cXS_tellLine8 40 = .ok (.putfield 26, 3) := by decide +kernel
theorem dXS_tellLine8_43 : decode cXS_tellLine8 43 = .ok (.aload_n 0, 1) := by decide +kernel
theorem dXS_tellLine8_44 : decode cXS_tellLine8 44 = .ok (.dup, 1) := by decide +kernel
theorem dXS_tellLine8_45 : decode cXS_tellLine8 45 = .ok (.getfield 48, 3) := by decide +kernel
theorem dXS_tellLine8_48 : decode cXS_tellLine8 48 = .ok (.bipush 13, 2) := by decide +kernel
theorem dXS_tellLine8_50 : decode cXS_tellLine8 50 = .ok (.isub, 1) := by decide +kernel
theorem dXS_tellLine8_51 : decode cXS_tellLine8 51 = .ok (.putfield 48, 3) := by decide +kernel
theorem dXS_tellLine8_54 : decode cXS_tellLine8 54 = .ok (.return_, 1) := by decide +kernel
theorem dXS_give_0 : decode cXS_give 0 = .ok (.aload_n 0, 1) := by decide +kernel
theorem dXS_give_1 : decode cXS_give 1 = .ok (.invokevirtual 51, 3) := by decide +kernel
theorem dXS_give_4 : decode cXS_give 4 = .ok (.ifCond .eq 4, 3) := by decide +kernel
theorem dXS_give_7 : decode cXS_give 7 = .ok (.return_, 1) := by decide +kernel
theorem dXS_give_8 : decode cXS_give 8 = .ok (.aload_n 0, 1) := by decide +kernel
theorem dXS_give_9 : decode cXS_give 9 = .ok (.dup, 1) := by decide +kernel
theorem dXS_give_10 : decode cXS_give 10 = .ok (.getfield 48, 3) := by decide +kernel
theorem dXS_give_13 : decode cXS_give 13 = .ok (.iload_n 1, 1) := by decide +kernel
theorem dXS_give_14 : decode cXS_give 14 = .ok (.iadd, 1) := by decide +kernel
theorem dXS_give_15 : decode cXS_give 15 = .ok (.putfield 48, 3) := by decide +kernel
theorem dXS_give_18 : decode cXS_give 18 = .ok (.iconst 0, 1) := by decide +kernel
theorem dXS_give_19 : decode cXS_give 19 = .ok (.istore_n 2, 1) := by decide +kernel
theorem dXS_give_20 : decode cXS_give 20 = .ok (.iload_n 2, 1) := by decide +kernel
theorem dXS_give_21 : decode cXS_give 21 = .ok (.iload_n 1, 1) := by decide +kernel
theorem dXS_give_22 : decode cXS_give 22 = .ok (.if_icmp .ge 42, 3) := by decide +kernel
theorem dXS_give_25 : decode cXS_give 25 = .ok (.aload_n 0, 1) := by decide +kernel
theorem dXS_give_26 : decode cXS_give 26 = .ok (.getfield 48, 3) := by decide +kernel
theorem dXS_give_29 : decode cXS_give 29 = .ok (.ifCond .le 35, 3) := by decide +kernel
theorem dXS_give_32 : decode cXS_give 32 = .ok (.aload_n 0, 1) := by decide +kernel
theorem dXS_give_33 : decode cXS_give 33 = .ok (.getfield 26, 3) := by decide +kernel
theorem dXS_give_36 : decode cXS_give 36 = .ok (.ifCond .eq 7, 3) := by decide +kernel
theorem dXS_give_39 : decode cXS_give 39 = .ok (.iconst 4, 1) := by decide +kernel
theorem dXS_give_40 : decode cXS_give 40 = .ok (.goto 7, 3) := by decide +kernel
theorem dXS_give_43 : decode cXS_give 43 = .ok (.aload_n 0, 1) := by decide +kernel
theorem dXS_give_44 : decode cXS_give 44 = .ok (.invokevirtual 55, 3) := by decide +kernel
theorem dXS_give_47 : decode cXS_give 47 = .ok (.istore_n 3, 1) := by decide +kernel
theorem dXS_give_48 : decode cXS_give 48 = .ok (.aload_n 0, 1) := by decide +kernel
theorem dXS_give_49 : decode cXS_give 49 = .ok (.dup, 1) := by decide +kernel
theorem dXS_give_50 : decode cXS_give 50 = .ok (.getfield 48, 3) := by decide +kernel
theorem dXS_give_53 : decode cXS_give 53 = .ok (.iload_n 3, 1) := by decide +kernel
theorem dXS_give_54 : decode cXS_give 54 = .ok (.isub, 1) := by decide +kernel
theorem dXS_give_55 : decode cXS_give 55 = .ok (.putfield 48, 3) := by decide +kernel
theorem dXS_give_58 : decode cXS_give 58 = .ok (.iinc 2 1, 3) := by decide +kernel
theorem dXS_give_61 : decode cXS_give 61 = .ok (.goto (-41), 3) := by decide +kernel
theorem dXS_give_64 : decode cXS_give 64 = .ok (.return_, 1) := by decide +kernel
theorem dXS_instruct_0 : decode cXS_instruct 0 = .ok (.aload_n 0, 1) := by decide +kernel
theorem dXS_instruct_1 : decode cXS_instruct 1 = .ok (.invokevirtual 59, 3) := by decide +kernel
theorem dXS_instruct_4 : decode cXS_instruct 4 = .ok (.lookupswitch 288 #[(32, 169), (50, 143), (58, 154), (60, 231), (61, 256), (62, 132), (71, 201), (103, 221), (118, 267), (120, 211), (128, 242), (195, 179), (201, 190), (243, 281), (251, 274)], 132) := by decide +kernel
theorem dXS_instruct_136 : decode cXS_instruct 136 = .ok (.aload_n 0, 1) := by decide +kernel
theorem dXS_instruct_137 : decode cXS_instruct 137 = .ok (.aload_n 0, 1) := by decide +kernel
theorem dXS_instruct_138 : decode cXS_instruct 138 = .ok (.invokevirtual 59, 3) := by decide +kernel
theorem dXS_instruct_141 : decode cXS_instruct 141 = .ok (.putfield 36, 3) := by decide +kernel
theorem dXS_instruct_144 : decode cXS_instruct 144 = .ok (.bipush 7, 2) := by decide +kernel
theorem dXS_instruct_146 : decode cXS_instruct 146 = .ok (.ireturn, 1) := by decide +kernel
theorem dXS_instruct_147 : decode cXS_instruct 147 = .ok (.aload_n 0, 1) := by decide +kernel
theorem dXS_instruct_148 : decode cXS_instruct 148 = .ok (.aload_n 0, 1) := by decide +kernel
theorem dXS_instruct_149 : decode cXS_instruct 149 = .ok (.invokevirtual 62, 3) := by decide +kernel
theorem dXS_instruct_152 : decode cXS_instruct 152 = .ok (.invokevirtual 65, 3) := by decide +kernel
theorem dXS_instruct_155 : decode cXS_instruct 155 = .ok (.bipush 13, 2) := by decide +kernel
theorem dXS_instruct_157 : decode cXS_instruct 157 = .ok (.ireturn, 1) := by decide +kernel
theorem dXS_instruct_158 : decode cXS_instruct 158 = .ok (.aload_n 0, 1) := by decide +kernel
theorem dXS_instruct_159 : decode cXS_instruct 159 = .ok (.aload_n 0, 1) := by decide +kernel
theorem dXS_instruct_160 : decode cXS_instruct 160 = .ok (.aload_n 0, 1) := by decide +kernel
theorem dXS_instruct_161 : decode cXS_instruct 161 = .ok (.invokevirtual 62, 3) := by decide +kernel
theorem dXS_instruct_164 : decode cXS_instruct 164 = .ok (.invokevirtual 69, 3) := by decide +kernel
theorem dXS_instruct_167 : decode cXS_instruct 167 = .ok (.putfield 36, 3) := by decide +kernel
theorem dXS_instruct_170 : decode cXS_instruct 170 = .ok (.bipush 13, 2) := by decide +kernel
theorem dXS_instruct_172 : decode cXS_instruct 172 = .ok (.ireturn, 1) := by decide +kernel
theorem dXS_instruct_173 : decode cXS_instruct 173 = .ok (.aload_n 0, 1) := by decide +kernel
theorem dXS_instruct_174 : decode cXS_instruct 174 = .ok (.aload_n 0, 1) := by decide +kernel
theorem dXS_instruct_175 : decode cXS_instruct 175 = .ok (.invokevirtual 59, 3) := by decide +kernel
theorem dXS_instruct_178 : decode cXS_instruct 178 = .ok (.i2b, 1) := by decide +kernel
theorem dXS_instruct_179 : decode cXS_instruct 179 = .ok (.invokevirtual 73, 3) := by decide +kernel
theorem dXS_instruct_182 : decode cXS_instruct 182 = .ok (.ireturn, 1) := by decide +kernel
theorem dXS_instruct_183 : decode cXS_instruct 183 = .ok (.aload_n 0, 1) := by decide +kernel
theorem dXS_instruct_184 : decode cXS_instruct 184 = .ok (.aload_n 0, 1) := by decide +kernel
theorem dXS_instruct_185 : decode cXS_instruct 185 = .ok (.invokevirtual 62, 3) := by decide +kernel
theorem dXS_instruct_188 : decode cXS_instruct 188 = .ok (.putfield 45, 3) := by decide +kernel
theorem dXS_instruct_191 : decode cXS_instruct 191 = .ok (.bipush 10, 2) := by decide +kernel
theorem dXS_instruct_193 : decode cXS_instruct 193 = .ok (.ireturn, 1) := by decide +kernel
theorem dXS_instruct_194 : decode cXS_instruct 194 = .ok (.aload_n 0, 1) := by decide +kernel
theorem dXS_instruct_195 : decode cXS_instruct 195 = .ok (.aload_n 0, 1) := by decide +kernel
theorem dXS_instruct_196 : decode cXS_instruct 196 = .ok (.getfield 42, 3) := by decide +kernel
theorem dXS_instruct_199 : decode cXS_instruct 199 = .ok (.putfield 45, 3) := by decide +kernel
theorem dXS_instruct_202 : decode cXS_instruct 202 = .ok (.bipush 10, 2) := by decide +kernel
theorem dXS_instruct_204 : decode cXS_instruct 204 = .ok (.ireturn, 1) := by decide +kernel
theorem dXS_instruct_205 : decode cXS_instruct 205 = .ok (.aload_n 0, 1) := by decide +kernel
theorem dXS_instruct_206 : decode cXS_instruct 206 = .ok (.aload_n 0, 1) := by decide +kernel
theorem dXS_instruct_207 : decode cXS_instruct 207 = .ok (.getfield 36, 3) := by decide +kernel
theorem dXS_instruct_210 : decode cXS_instruct 210 = .ok (.putfield 39, 3) := by decide +kernel
theorem dXS_instruct_213 : decode cXS_instruct 213 = .ok (.iconst 4, 1) := by decide +kernel
theorem dXS_instruct_214 : decode cXS_instruct 214 = .ok (.ireturn, 1) := by decide +kernel
theorem dXS_instruct_215 : decode cXS_instruct 215 = .ok (.aload_n 0, 1) := by decide +kernel
theorem dXS_instruct_216 : decode cXS_instruct 216 = .ok (.aload_n 0, 1) := by decide +kernel
theorem dXS_instruct_217 : decode cXS_instruct 217 = .ok (.getfield 39, 3) := by decide +kernel
theorem dXS_instruct_220 : decode cXS_instruct 220 = .ok (.putfield 36, 3) := by decide +kernel
theorem dXS_instruct_223 : decode cXS_instruct 223 = .ok (.iconst 4, 1) := by decide +kernel
theorem dXS_instruct_224 : decode cXS_instruct 224 = .ok (.ireturn, 1) := by decide +kernel
theorem dXS_instruct_225 : decode cXS_instruct 225 = .ok (.aload_n 0, 1) := by decide +kernel
theorem dXS_instruct_226 : decode cXS_instruct 226 = .ok (.aload_n 0, 1) := by decide +kernel
theorem dXS_instruct_227 : decode cXS_instruct 227 = .ok (.getfield 36, 3) := by decide +kernel
theorem dXS_instruct_230 : decode cXS_instruct 230 = .ok (.putfield 42, 3) := by decide +kernel
theorem dXS_instruct_233 : decode cXS_instruct 233 = .ok (.iconst 4, 1) := by decide +kernel
theorem dXS_instruct_234 : decode cXS_instruct 234 = .ok (.ireturn, 1) := by decide +kernel
theorem dXS_instruct_235 : decode cXS_instruct 235 = .ok (.aload_n 0, 1) := by decide +kernel
theorem dXS_instruct_236 : decode cXS_instruct 236 = .ok (.aload_n 0, 1) := by decide +kernel
theorem dXS_instruct_237 : decode cXS_instruct 237 = .ok (.getfield 36, 3) := by decide +kernel
theorem dXS_instruct_240 : decode cXS_instruct 240 = .ok (.iconst 1, 1) := by decide +kernel
theorem dXS_instruct_241 : decode cXS_instruct 241 = .ok (.iadd, 1) := by decide +kernel
theorem dXS_instruct_242 : decode cXS_instruct 242 = .ok (.invokevirtual 76, 3) := by decide +kernel
theorem dXS_instruct_245 : decode cXS_instruct 245 = .ok (.ireturn, 1) := by decide +kernel
theorem dXS_instruct_246 : decode cXS_instruct 246 = .ok (.aload_n 0, 1) := by decide +kernel
theorem dXS_instruct_247 : decode cXS_instruct 247 = .ok (.aload_n 0, 1) := by decide +kernel
theorem dXS_instruct_248 : decode cXS_instruct 248 = .ok (.getfield 36, 3) := by decide +kernel
theorem dXS_instruct_251 : decode cXS_instruct 251 = .ok (.aload_n 0, 1) := by decide +kernel
theorem dXS_instruct_252 : decode cXS_instruct 252 = .ok (.getfield 39, 3) := by decide +kernel
theorem dXS_instruct_255 : decode cXS_instruct 255 = .ok (.iadd, 1) := by decide +kernel
theorem dXS_instruct_256 : decode cXS_instruct 256 = .ok (.invokevirtual 76, 3) := by decide +kernel
theorem dXS_instruct_259 : decode cXS_instruct 259 = .ok (.ireturn, 1) := by decide +kernel
theorem dXS_instruct_260 : decode cXS_instruct 260 = .ok (.aload_n 0, 1) := by decide +kernel
theorem dXS_instruct_261 : decode cXS_instruct 261 = .ok (.aload_n 0, 1) := by decide +kernel
theorem dXS_instruct_262 : decode cXS_instruct 262 = .ok (.getfield 36, 3) := by decide +kernel
theorem dXS_instruct_265 : decode cXS_instruct 265 = .ok (.iconst 1, 1) := by decide +kernel
theorem dXS_instruct_266 : decode cXS_instruct 266 = .ok (.isub, 1) := by decide +kernel
theorem dXS_instruct_267 : decode cXS_instruct 267 = .ok (.invokevirtual 76, 3) := by decide +kernel
theorem dXS_instruct_270 : decode cXS_instruct 270 = .ok (.ireturn, 1) := by decide +kernel
theorem dXS_instruct_271 : decode cXS_instruct 271 = .ok (.aload_n 0, 1) := by decide +kernel
theorem dXS_instruct_272 : decode cXS_instruct 272 = .ok (.iconst 1, 1) := by decide +kernel
theorem dXS_instruct_273 : decode cXS_instruct 273 = .ok (.putfield 26, 3) := by decide +kernel
theorem dXS_instruct_276 : decode cXS_instruct 276 = .ok (.iconst 4, 1) := by decide +kernel
theorem dXS_instruct_277 : decode cXS_instruct 277 = .ok (.ireturn, 1) := by decide +kernel
theorem dXS_instruct_278 : decode cXS_instruct 278 = .ok (.aload_n 0, 1) := by decide +kernel
theorem dXS_instruct_279 : decode cXS_instruct 279 = .ok (.iconst 1, 1) := by decide +kernel
theorem dXS_instruct_280 : decode cXS_instruct 280 = .ok (.putfield 29, 3) := by decide +kernel
theorem dXS_instruct_283 : decode cXS_instruct 283 = .ok (.iconst 4, 1) := by decide +kernel
theorem dXS_instruct_284 : decode cXS_instruct 284 = .ok (.ireturn, 1) := by decide +kernel
theorem dXS_instruct_285 : decode cXS_instruct 285 = .ok (.aload_n 0, 1) := by decide +kernel
theorem dXS_instruct_286 : decode cXS_instruct 286 = .ok (.iconst 0, 1) := by decide +kernel
theorem dXS_instruct_287 : decode cXS_instruct 287 = .ok (.putfield 29, 3) := by decide +kernel
theorem dXS_instruct_290 : decode cXS_instruct 290 = .ok (.iconst 4, 1) := by decide +kernel
theorem dXS_instruct_291 : decode cXS_instruct 291 = .ok (.ireturn, 1) := by decide +kernel
theorem dXS_instruct_292 : decode cXS_instruct 292 = .ok (.iconst 4, 1) := by decide +kernel
theorem dXS_instruct_293 : decode cXS_instruct 293 = .ok (.ireturn, 1) := by decide +kernel
theorem dXS_count_0 : decode cXS_count 0 = .ok (.aload_n 0, 1) := by decide +kernel
theorem dXS_count_1 : decode cXS_count 1 = .ok (.iload_n 1, 1) := by decide +kernel
theorem dXS_count_2 : decode cXS_count 2 = .ok (.sipush 255, 3) := by decide +kernel
theorem dXS_count_5 : decode cXS_count 5 = .ok (.iand, 1) := by decide +kernel
theorem dXS_count_6 : decode cXS_count 6 = .ok (.putfield 36, 3) := by decide +kernel
theorem dXS_count_9 : decode cXS_count 9 = .ok (.aload_n 0, 1) := by decide +kernel
theorem dXS_count_10 : decode cXS_count 10 = .ok (.aload_n 0, 1) := by decide +kernel
theorem dXS_count_11 : decode cXS_count 11 = .ok (.getfield 36, 3) := by decide +kernel
theorem dXS_count_14 : decode cXS_count 14 = .ok (.ifCond .ne 7, 3) := by decide +kernel
theorem dXS_count_17 : decode cXS_count 17 = .ok (.iconst 1, 1) := by decide +kernel
theorem dXS_count_18 : decode cXS_count 18 = .ok (.goto 4, 3) := by decide +kernel
theorem dXS_count_21 : decode cXS_count 21 = .ok (.iconst 0, 1) := by decide +kernel
theorem dXS_count_22 : decode cXS_count 22 = .ok (.putfield 23, 3) := by decide +kernel
theorem dXS_count_25 : decode cXS_count 25 = .ok (.iconst 4, 1) := by decide +kernel
theorem dXS_count_26 : decode cXS_count 26 = .ok (.ireturn, 1) := by decide +kernel
theorem dXS_branch_0 : decode cXS_branch 0 = .ok (.aload_n 0, 1) := by decide +kernel
theorem dXS_branch_1 : decode cXS_branch 1 = .ok (.getfield 23, 3) := by decide +kernel
theorem dXS_branch_4 : decode cXS_branch 4 = .ok (.ifCond .eq 6, 3) := by decide +kernel
theorem dXS_branch_7 : decode cXS_branch 7 = .ok (.bipush 7, 2) := by decide +kernel
theorem dXS_branch_9 : decode cXS_branch 9 = .ok (.ireturn, 1) := by decide +kernel
theorem dXS_branch_10 : decode cXS_branch 10 = .ok (.aload_n 0, 1) := by decide +kernel
theorem dXS_branch_11 : decode cXS_branch 11 = .ok (.aload_n 0, 1) := by decide +kernel
theorem dXS_branch_12 : decode cXS_branch 12 = .ok (.getfield 45, 3) := by decide +kernel
theorem dXS_branch_15 : decode cXS_branch 15 = .ok (.iload_n 1, 1) := by decide +kernel
theorem dXS_branch_16 : decode cXS_branch 16 = .ok (.iadd, 1) := by decide +kernel
theorem dXS_branch_17 : decode cXS_branch 17 = .ok (.ldc 79, 2) := by decide +kernel
theorem dXS_branch_19 : decode cXS_branch 19 = .ok (.iand, 1) := by decide +kernel
theorem dXS_branch_20 : decode cXS_branch 20 = .ok (.putfield 45, 3) := by decide +kernel
theorem dXS_branch_23 : decode cXS_branch 23 = .ok (.bipush 12, 2) := by decide +kernel
theorem dXS_branch_25 : decode cXS_branch 25 = .ok (.ireturn, 1) := by decide +kernel
theorem dXS_nextByte_0 : decode cXS_nextByte 0 = .ok (.aload_n 0, 1) := by decide +kernel
theorem dXS_nextByte_1 : decode cXS_nextByte 1 = .ok (.aload_n 0, 1) := by decide +kernel
theorem dXS_nextByte_2 : decode cXS_nextByte 2 = .ok (.getfield 45, 3) := by decide +kernel
theorem dXS_nextByte_5 : decode cXS_nextByte 5 = .ok (.invokevirtual 69, 3) := by decide +kernel
theorem dXS_nextByte_8 : decode cXS_nextByte 8 = .ok (.istore_n 1, 1) := by decide +kernel
theorem dXS_nextByte_9 : decode cXS_nextByte 9 = .ok (.aload_n 0, 1) := by decide +kernel
theorem dXS_nextByte_10 : decode cXS_nextByte 10 = .ok (.aload_n 0, 1) := by decide +kernel
theorem dXS_nextByte_11 : decode cXS_nextByte 11 = .ok (.getfield 45, 3) := by decide +kernel
theorem dXS_nextByte_14 : decode cXS_nextByte 14 = .ok (.iconst 1, 1) := by decide +kernel
theorem dXS_nextByte_15 : decode cXS_nextByte 15 = .ok (.iadd, 1) := by decide +kernel
theorem dXS_nextByte_16 : decode cXS_nextByte 16 = .ok (.ldc 79, 2) := by decide +kernel
theorem dXS_nextByte_18 : decode cXS_nextByte 18 = .ok (.iand, 1) := by decide +kernel
theorem dXS_nextByte_19 : decode cXS_nextByte 19 = .ok (.putfield 45, 3) := by decide +kernel
theorem dXS_nextByte_22 : decode cXS_nextByte 22 = .ok (.iload_n 1, 1) := by decide +kernel
theorem dXS_nextByte_23 : decode cXS_nextByte 23 = .ok (.ireturn, 1) := by decide +kernel
theorem dXS_nextAddress_0 : decode cXS_nextAddress 0 = .ok (.aload_n 0, 1) := by decide +kernel
theorem dXS_nextAddress_1 : decode cXS_nextAddress 1 = .ok (.invokevirtual 59, 3) := by decide +kernel
theorem dXS_nextAddress_4 : decode cXS_nextAddress 4 = .ok (.istore_n 1, 1) := by decide +kernel
theorem dXS_nextAddress_5 : decode cXS_nextAddress 5 = .ok (.aload_n 0, 1) := by decide +kernel
theorem dXS_nextAddress_6 : decode cXS_nextAddress 6 = .ok (.invokevirtual 59, 3) := by decide +kernel
theorem dXS_nextAddress_9 : decode cXS_nextAddress 9 = .ok (.sipush 256, 3) := by decide +kernel
theorem dXS_nextAddress_12 : decode cXS_nextAddress 12 = .ok (.imul, 1) := by decide +kernel
theorem dXS_nextAddress_13 : decode cXS_nextAddress 13 = .ok (.iload_n 1, 1) := by decide +kernel
theorem dXS_nextAddress_14 : decode cXS_nextAddress 14 = .ok (.iadd, 1) := by decide +kernel
theorem dXS_nextAddress_15 : decode cXS_nextAddress 15 = .ok (.ireturn, 1) := by decide +kernel
theorem dXS_readByte_0 : decode cXS_readByte 0 = .ok (.iload_n 1, 1) := by decide +kernel
theorem dXS_readByte_1 : decode cXS_readByte 1 = .ok (.ldc 80, 2) := by decide +kernel
theorem dXS_readByte_3 : decode cXS_readByte 3 = .ok (.if_icmp .ge 13, 3) := by decide +kernel
theorem dXS_readByte_6 : decode cXS_readByte 6 = .ok (.aload_n 0, 1) := by decide +kernel
theorem dXS_readByte_7 : decode cXS_readByte 7 = .ok (.getfield 13, 3) := by decide +kernel
theorem dXS_readByte_10 : decode cXS_readByte 10 = .ok (.iload_n 1, 1) := by decide +kernel
theorem dXS_readByte_11 : decode cXS_readByte 11 = .ok (.bipush 127, 2) := by decide +kernel
theorem dXS_readByte_13 : decode cXS_readByte 13 = .ok (.iand, 1) := by decide +kernel
theorem dXS_readByte_14 : decode cXS_readByte 14 = .ok (.iaload, 1) := by decide +kernel
theorem dXS_readByte_15 : decode cXS_readByte 15 = .ok (.ireturn, 1) := by decide +kernel
theorem dXS_readByte_16 : decode cXS_readByte 16 = .ok (.aload_n 0, 1) := by decide +kernel
theorem dXS_readByte_17 : decode cXS_readByte 17 = .ok (.dup, 1) := by decide +kernel
theorem dXS_readByte_18 : decode cXS_readByte 18 = .ok (.getfield 48, 3) := by decide +kernel
theorem dXS_readByte_21 : decode cXS_readByte 21 = .ok (.iconst 3, 1) := by decide +kernel
theorem dXS_readByte_22 : decode cXS_readByte 22 = .ok (.isub, 1) := by decide +kernel
theorem dXS_readByte_23 : decode cXS_readByte 23 = .ok (.putfield 48, 3) := by decide +kernel
theorem dXS_readByte_26 : decode cXS_readByte 26 = .ok (.aload_n 0, 1) := by decide +kernel
theorem dXS_readByte_27 : decode cXS_readByte 27 = .ok (.dup, 1) := by decide +kernel
theorem dXS_readByte_28 : decode cXS_readByte 28 = .ok (.getfield 32, 3) := by decide +kernel
theorem dXS_readByte_31 : decode cXS_readByte 31 = .ok (.bipush 11, 2) := by decide +kernel
theorem dXS_readByte_33 : decode cXS_readByte 33 = .ok (.iadd, 1) := by decide +kernel
theorem dXS_readByte_34 : decode cXS_readByte 34 = .ok (.putfield 32, 3) := by decide +kernel
theorem dXS_readByte_37 : decode cXS_readByte 37 = .ok (.aload_n 0, 1) := by decide +kernel
theorem dXS_readByte_38 : decode cXS_readByte 38 = .ok (.getfield 7, 3) := by decide +kernel
theorem dXS_readByte_41 : decode cXS_readByte 41 = .ok (.iload_n 1, 1) := by decide +kernel
theorem dXS_readByte_42 : decode cXS_readByte 42 = .ok (.sipush 511, 3) := by decide +kernel
theorem dXS_readByte_45 : decode cXS_readByte 45 = .ok (.iand, 1) := by decide +kernel
theorem dXS_readByte_46 : decode cXS_readByte 46 = .ok (.iconst 1, 1) := by decide +kernel
theorem dXS_readByte_47 : decode cXS_readByte 47 = .ok (.ishr, 1) := by decide +kernel
theorem dXS_readByte_48 : decode cXS_readByte 48 = .ok (.iaload, 1) := by decide +kernel
theorem dXS_readByte_49 : decode cXS_readByte 49 = .ok (.istore_n 2, 1) := by decide +kernel
theorem dXS_readByte_50 : decode cXS_readByte 50 = .ok (.iload_n 1, 1) := by decide +kernel
theorem dXS_readByte_51 : decode cXS_readByte 51 = .ok (.iconst 1, 1) := by decide +kernel
theorem dXS_readByte_52 : decode cXS_readByte 52 = .ok (.iand, 1) := by decide +kernel
theorem dXS_readByte_53 : decode cXS_readByte 53 = .ok (.ifCond .ne 10, 3) := by decide +kernel
theorem dXS_readByte_56 : decode cXS_readByte 56 = .ok (.iload_n 2, 1) := by decide +kernel
theorem dXS_readByte_57 : decode cXS_readByte 57 = .ok (.bipush 8, 2) := by decide +kernel
theorem dXS_readByte_59 : decode cXS_readByte 59 = .ok (.ishr, 1) := by decide +kernel
theorem dXS_readByte_60 : decode cXS_readByte 60 = .ok (.goto 8, 3) := by decide +kernel
theorem dXS_readByte_63 : decode cXS_readByte 63 = .ok (.iload_n 2, 1) := by decide +kernel
theorem dXS_readByte_64 : decode cXS_readByte 64 = .ok (.sipush 255, 3) := by decide +kernel
theorem dXS_readByte_67 : decode cXS_readByte 67 = .ok (.iand, 1) := by decide +kernel
theorem dXS_readByte_68 : decode cXS_readByte 68 = .ok (.ireturn, 1) := by decide +kernel
theorem dXS_writeByte_0 : decode cXS_writeByte 0 = .ok (.iload_n 1, 1) := by decide +kernel
theorem dXS_writeByte_1 : decode cXS_writeByte 1 = .ok (.ldc 80, 2) := by decide +kernel
theorem dXS_writeByte_3 : decode cXS_writeByte 3 = .ok (.if_icmp .ge 16, 3) := by decide +kernel
theorem dXS_writeByte_6 : decode cXS_writeByte 6 = .ok (.aload_n 0, 1) := by decide +kernel
theorem dXS_writeByte_7 : decode cXS_writeByte 7 = .ok (.getfield 13, 3) := by decide +kernel
theorem dXS_writeByte_10 : decode cXS_writeByte 10 = .ok (.iload_n 1, 1) := by decide +kernel
theorem dXS_writeByte_11 : decode cXS_writeByte 11 = .ok (.bipush 127, 2) := by decide +kernel
theorem dXS_writeByte_13 : decode cXS_writeByte 13 = .ok (.iand, 1) := by decide +kernel
theorem dXS_writeByte_14 : decode cXS_writeByte 14 = .ok (.aload_n 0, 1) := by decide +kernel
theorem dXS_writeByte_15 : decode cXS_writeByte 15 = .ok (.getfield 36, 3) := by decide +kernel
theorem dXS_writeByte_18 : decode cXS_writeByte 18 = .ok (.iastore, 1) := by decide +kernel
theorem dXS_writeByte_19 : decode cXS_writeByte 19 = .ok (.return_, 1) := by decide +kernel
end
section
theorem dXT_init_0 : decode cXT_init 0 = .ok (.aload_n 0, 1) := by decide +kernel
theorem dXT_init_1 : decode cXT_init 1 = .ok (.invokespecial 1, 3) := by decide +kernel
theorem dXT_init_4 : decode cXT_init 4 = .ok (.aload_n 0, 1) := by decide +kernel
theorem dXT_init_5 : decode cXT_init 5 = .ok (.sipush 256, 3) := by decide +kernel
theorem dXT_init_8 : decode cXT_init 8 = .ok (.newarray .int, 2) := by decide +kernel
theorem dXT_init_10 : decode cXT_init 10 = .ok (.putfield 7, 3) := by decide +kernel
theorem dXT_init_13 : decode cXT_init 13 = .ok (.aload_n 0, 1) := by decide +kernel
theorem dXT_init_14 : decode cXT_init 14 = .ok (.new 13, 3) := by decide +kernel
theorem dXT_init_17 : decode cXT_init 17 = .ok (.dup, 1) := by decide +kernel
theorem dXT_init_18 : decode cXT_init 18 = .ok (.aload_n 0, 1) := by decide +kernel
theorem dXT_init_19 : decode cXT_init 19 = .ok (.getfield 7, 3) := by decide +kernel
theorem dXT_init_22 : decode cXT_init 22 = .ok (.invokespecial 15, 3) := by decide +kernel
theorem dXT_init_25 : decode cXT_init 25 = .ok (.putfield 18, 3) := by decide +kernel
theorem dXT_init_28 : decode cXT_init 28 = .ok (.aload_n 0, 1) := by decide +kernel
theorem dXT_init_29 : decode cXT_init 29 = .ok (.new 22, 3) := by decide +kernel
theorem dXT_init_32 : decode cXT_init 32 = .ok (.dup, 1) := by decide +kernel
theorem dXT_init_33 : decode cXT_init 33 = .ok (.invokespecial 24, 3) := by decide +kernel
theorem dXT_init_36 : decode cXT_init 36 = .ok (.putfield 25, 3) := by decide +kernel
theorem dXT_init_39 : decode cXT_init 39 = .ok (.aload_n 0, 1) := by decide +kernel
theorem dXT_init_40 : decode cXT_init 40 = .ok (.new 29, 3) := by decide +kernel
theorem dXT_init_43 : decode cXT_init 43 = .ok (.dup, 1) := by decide +kernel
theorem dXT_init_44 : decode cXT_init 44 = .ok (.aload_n 0, 1) := by decide +kernel
theorem dXT_init_45 : decode cXT_init 45 = .ok (.getfield 25, 3) := by decide +kernel
theorem dXT_init_48 : decode cXT_init 48 = .ok (.invokespecial 31, 3) := by decide +kernel
theorem dXT_init_51 : decode cXT_init 51 = .ok (.putfield 34, 3) := by decide +kernel
theorem dXT_init_54 : decode cXT_init 54 = .ok (.aload_n 0, 1) := by decide +kernel
theorem dXT_init_55 : decode cXT_init 55 = .ok (.new 38, 3) := by decide +kernel
theorem dXT_init_58 : decode cXT_init 58 = .ok (.dup, 1) := by decide +kernel
theorem dXT_init_59 : decode cXT_init 59 = .ok (.aload_n 0, 1) := by decide +kernel
theorem dXT_init_60 : decode cXT_init 60 = .ok (.getfield 25, 3) := by decide +kernel
theorem dXT_init_63 : decode cXT_init 63 = .ok (.aload_n 0, 1) := by decide +kernel
theorem dXT_init_64 : decode cXT_init 64 = .ok (.getfield 34, 3) := by decide +kernel
theorem dXT_init_67 : decode cXT_init 67 = .ok (.aload_n 0, 1) := by decide +kernel
theorem dXT_init_68 : decode cXT_init 68 = .ok (.getfield 18, 3) := by decide +kernel
theorem dXT_init_71 : decode cXT_init 71 = .ok (.invokespecial 40, 3) := by decide +kernel
theorem dXT_init_74 : decode cXT_init 74 = .ok (.putfield 43, 3) := by decide +kernel
theorem dXT_init_77 : decode cXT_init 77 = .ok (.aload_n 0, 1) := by decide +kernel
theorem dXT_init_78 : decode cXT_init 78 = .ok (.new 47, 3) := by decide +kernel
theorem dXT_init_81 : decode cXT_init 81 = .ok (.dup, 1) := by decide +kernel
theorem dXT_init_82 : decode cXT_init 82 = .ok (.aload_n 0, 1) := by decide +kernel
theorem dXT_init_83 : decode cXT_init 83 = .ok (.getfield 7, 3) := by decide +kernel
theorem dXT_init_86 : decode cXT_init 86 = .ok (.aload_n 0, 1) := by decide +kernel
theorem dXT_init_87 : decode cXT_init 87 = .ok (.getfield 18, 3) := by decide +kernel
theorem dXT_init_90 : decode cXT_init 90 = .ok (.aload_n 0, 1) := by decide +kernel
theorem dXT_init_91 : decode cXT_init 91 = .ok (.getfield 25, 3) := by decide +kernel
theorem dXT_init_94 : decode cXT_init 94 = .ok (.aload_n 0, 1) := by decide +kernel
theorem dXT_init_95 : decode cXT_init 95 = .ok (.getfield 34, 3) := by decide +kernel
theorem dXT_init_98 : decode cXT_init 98 = .ok (.aload_n 0, 1) := by decide +kernel
theorem dXT_init_99 : decode cXT_init 99 = .ok (.getfield 43, 3) := by decide +kernel
theorem dXT_init_102 : decode cXT_init 102 = .ok (.invokespecial 49, 3) := by decide +kernel
theorem dXT_init_105 : decode cXT_init 105 = .ok (.putfield 52, 3) := by decide +kernel
theorem dXT_init_108 : decode cXT_init 108 = .ok (.aload_n 0, 1) := by decide +kernel
theorem dXT_init_109 : decode cXT_init 109 = .ok (.new 56, 3) := by decide +kernel
theorem dXT_init_112 : decode cXT_init 112 = .ok (.dup, 1) := by decide +kernel
theorem dXT_init_113 : decode cXT_init 113 = .ok (.aload_n 0, 1) := by decide +kernel
theorem dXT_init_114 : decode cXT_init 114 = .ok (.getfield 52, 3) := by decide +kernel
theorem dXT_init_117 : decode cXT_init 117 = .ok (.invokespecial 58, 3) := by decide +kernel
theorem dXT_init_120 : decode cXT_init 120 = .ok (.putfield 61, 3) := by decide +kernel
theorem dXT_init_123 : decode cXT_init 123 = .ok (.return_, 1) := by decide +kernel
theorem dXT_rom_0 : decode cXT_rom 0 = .ok (.iload_n 1, 1) := by decide +kernel
theorem dXT_rom_1 : decode cXT_rom 1 = .ok (.ifCond .lt 12, 3) := by decide +kernel
theorem dXT_rom_4 : decode cXT_rom 4 = .ok (.iload_n 1, 1) := by decide +kernel
theorem dXT_rom_5 : decode cXT_rom 5 = .ok (.aload_n 0, 1) := by decide +kernel
theorem dXT_rom_6 : decode cXT_rom 6 = .ok (.getfield 7, 3) := by decide +kernel
theorem dXT_rom_9 : decode cXT_rom 9 = .ok (.arraylength, 1) := by decide +kernel
theorem dXT_rom_10 : decode cXT_rom 10 = .ok (.if_icmp .lt 5, 3) := by decide +kernel
theorem dXT_rom_13 : decode cXT_rom 13 = .ok (.iconst 0, 1) := by decide +kernel
theorem dXT_rom_14 : decode cXT_rom 14 = .ok (.ireturn, 1) := by decide +kernel
theorem dXT_rom_15 : decode cXT_rom 15 = .ok (.aload_n 0, 1) := by decide +kernel
theorem dXT_rom_16 : decode cXT_rom 16 = .ok (.getfield 7, 3) := by decide +kernel
theorem dXT_rom_19 : decode cXT_rom 19 = .ok (.iload_n 1, 1) := by decide +kernel
theorem dXT_rom_20 : decode cXT_rom 20 = .ok (.iload_n 2, 1) := by decide +kernel
theorem dXT_rom_21 : decode cXT_rom 21 = .ok (.ldc 65, 2) := by decide +kernel
theorem dXT_rom_23 : decode cXT_rom 23 = .ok (.iand, 1) := by decide +kernel
theorem dXT_rom_24 : decode cXT_rom 24 = .ok (.iastore, 1) := by decide +kernel
theorem dXT_rom_25 : decode cXT_rom 25 = .ok (.iconst 1, 1) := by decide +kernel
theorem dXT_rom_26 : decode cXT_rom 26 = .ok (.ireturn, 1) := by decide +kernel
theorem dXT_reset_0 : decode cXT_reset 0 = .ok (.aload_n 0, 1) := by decide +kernel
theorem dXT_reset_1 : decode cXT_reset 1 = .ok (.getfield 61, 3) := by decide +kernel
theorem dXT_reset_4 : decode cXT_reset 4 = .ok (.invokevirtual 66, 3) := by decide +kernel
theorem dXT_reset_7 : decode cXT_reset 7 = .ok (.return_, 1) := by decide +kernel
theorem dXT_pad_0 : decode cXT_pad 0 = .ok (.aload_n 0, 1) := by decide +kernel
theorem dXT_pad_1 : decode cXT_pad 1 = .ok (.getfield 52, 3) := by decide +kernel
theorem dXT_pad_4 : decode cXT_pad 4 = .ok (.iload_n 1, 1) := by decide +kernel
theorem dXT_pad_5 : decode cXT_pad 5 = .ok (.sipush 255, 3) := by decide +kernel
theorem dXT_pad_8 : decode cXT_pad 8 = .ok (.iand, 1) := by decide +kernel
theorem dXT_pad_9 : decode cXT_pad 9 = .ok (.putfield 69, 3) := by decide +kernel
theorem dXT_pad_12 : decode cXT_pad 12 = .ok (.return_, 1) := by decide +kernel
theorem dXT_step_0 : decode cXT_step 0 = .ok (.aload_n 0, 1) := by decide +kernel
theorem dXT_step_1 : decode cXT_step 1 = .ok (.invokevirtual 73, 3) := by decide +kernel
theorem dXT_step_4 : decode cXT_step 4 = .ok (.ireturn, 1) := by decide +kernel
theorem dXT_run_0 : decode cXT_run 0 = .ok (.iload_n 1, 1) := by decide +kernel
theorem dXT_run_1 : decode cXT_run 1 = .ok (.ifCond .lt 10, 3) := by decide +kernel
theorem dXT_run_4 : decode cXT_run 4 = .ok (.iload_n 1, 1) := by decide +kernel
theorem dXT_run_5 : decode cXT_run 5 = .ok (.sipush 800, 3) := by decide +kernel
theorem dXT_run_8 : decode cXT_run 8 = .ok (.if_icmp .le 5, 3) := by decide +kernel
theorem dXT_run_11 : decode cXT_run 11 = .ok (.iconst (-1), 1) := by decide +kernel
theorem dXT_run_12 : decode cXT_run 12 = .ok (.ireturn, 1) := by decide +kernel
theorem dXT_run_13 : decode cXT_run 13 = .ok (.iconst 0, 1) := by decide +kernel
theorem dXT_run_14 : decode cXT_run 14 = .ok (.istore_n 2, 1) := by decide +kernel
theorem dXT_run_15 : decode cXT_run 15 = .ok (.iconst 0, 1) := by decide +kernel
theorem dXT_run_16 : decode cXT_run 16 = .ok (.istore_n 3, 1) := by decide +kernel
theorem dXT_run_17 : decode cXT_run 17 = .ok (.iload_n 3, 1) := by decide +kernel
theorem dXT_run_18 : decode cXT_run 18 = .ok (.sipush 800, 3) := by decide +kernel
theorem dXT_run_21 : decode cXT_run 21 = .ok (.if_icmp .ge 21, 3) := by decide +kernel
theorem dXT_run_24 : decode cXT_run 24 = .ok (.iload_n 2, 1) := by decide +kernel
theorem dXT_run_25 : decode cXT_run 25 = .ok (.iload_n 1, 1) := by decide +kernel
theorem dXT_run_26 : decode cXT_run 26 = .ok (.if_icmp .ge 16, 3) := by decide +kernel
theorem dXT_run_29 : decode cXT_run 29 = .ok (.iload_n 2, 1) := by decide +kernel
theorem dXT_run_30 : decode cXT_run 30 = .ok (.aload_n 0, 1) := by decide +kernel
theorem dXT_run_31 : decode cXT_run 31 = .ok (.invokevirtual 73, 3) := by decide +kernel
theorem dXT_run_34 : decode cXT_run 34 = .ok (.iadd, 1) := by decide +kernel
theorem dXT_run_35 : decode cXT_run 35 = .ok (.istore_n 2, 1) := by decide +kernel
theorem dXT_run_36 : decode cXT_run 36 = .ok (.iinc 3 1, 3) := by decide +kernel
theorem dXT_run_39 : decode cXT_run 39 = .ok (.goto (-22), 3) := by decide +kernel
theorem dXT_run_42 : decode cXT_run 42 = .ok (.iload_n 2, 1) := by decide +kernel
theorem dXT_run_43 : decode cXT_run 43 = .ok (.ireturn, 1) := by decide +kernel
theorem dXT_memory_0 : decode cXT_memory 0 = .ok (.iload_n 1, 1) := by decide +kernel
theorem dXT_memory_1 : decode cXT_memory 1 = .ok (.ifCond .lt 9, 3) := by decide +kernel
theorem dXT_memory_4 : decode cXT_memory 4 = .ok (.iload_n 1, 1) := by decide +kernel
theorem dXT_memory_5 : decode cXT_memory 5 = .ok (.ldc 65, 2) := by decide +kernel
theorem dXT_memory_7 : decode cXT_memory 7 = .ok (.if_icmp .le 5, 3) := by decide +kernel
theorem dXT_memory_10 : decode cXT_memory 10 = .ok (.iconst 0, 1) := by decide +kernel
theorem dXT_memory_11 : decode cXT_memory 11 = .ok (.ireturn, 1) := by decide +kernel
theorem dXT_memory_12 : decode cXT_memory 12 = .ok (.aload_n 0, 1) := by decide +kernel
theorem dXT_memory_13 : decode cXT_memory 13 = .ok (.getfield 52, 3) := by decide +kernel
theorem dXT_memory_16 : decode cXT_memory 16 = .ok (.iload_n 1, 1) := by decide +kernel
theorem dXT_memory_17 : decode cXT_memory 17 = .ok (.invokevirtual 77, 3) := by decide +kernel
theorem dXT_memory_20 : decode cXT_memory 20 = .ok (.ireturn, 1) := by decide +kernel
theorem dXT_register_0 : decode cXT_register 0 = .ok (.iload_n 1, 1) := by decide +kernel
theorem dXT_register_1 : decode cXT_register 1 = .ok (.ifCond .lt 19, 3) := by decide +kernel
theorem dXT_register_4 : decode cXT_register 4 = .ok (.iload_n 1, 1) := by decide +kernel
theorem dXT_register_5 : decode cXT_register 5 = .ok (.bipush 8, 2) := by decide +kernel
theorem dXT_register_7 : decode cXT_register 7 = .ok (.if_icmp .ge 13, 3) := by decide +kernel
theorem dXT_register_10 : decode cXT_register 10 = .ok (.aload_n 0, 1) := by decide +kernel
theorem dXT_register_11 : decode cXT_register 11 = .ok (.getfield 61, 3) := by decide +kernel
theorem dXT_register_14 : decode cXT_register 14 = .ok (.getfield 81, 3) := by decide +kernel
theorem dXT_register_17 : decode cXT_register 17 = .ok (.iload_n 1, 1) := by decide +kernel
theorem dXT_register_18 : decode cXT_register 18 = .ok (.iaload, 1) := by decide +kernel
theorem dXT_register_19 : decode cXT_register 19 = .ok (.ireturn, 1) := by decide +kernel
theorem dXT_register_20 : decode cXT_register 20 = .ok (.iload_n 1, 1) := by decide +kernel
theorem dXT_register_21 : decode cXT_register 21 = .ok (.tableswitch 147 8 16 #[51, 59, 67, 75, 107, 115, 123, 131, 139], 51) := by decide +kernel
theorem dXT_register_72 : decode cXT_register 72 = .ok (.aload_n 0, 1) := by decide +kernel
theorem dXT_register_73 : decode cXT_register 73 = .ok (.getfield 61, 3) := by decide +kernel
theorem dXT_register_76 : decode cXT_register 76 = .ok (.getfield 84, 3) := by decide +kernel
theorem dXT_register_79 : decode cXT_register 79 = .ok (.ireturn, 1) := by decide +kernel
theorem dXT_register_80 : decode cXT_register 80 = .ok (.aload_n 0, 1) := by decide +kernel
theorem dXT_register_81 : decode cXT_register 81 = .ok (.getfield 61, 3) := by decide +kernel
theorem dXT_register_84 : decode cXT_register 84 = .ok (.getfield 87, 3) := by decide +kernel
theorem dXT_register_87 : decode cXT_register 87 = .ok (.ireturn, 1) := by decide +kernel
theorem dXT_register_88 : decode cXT_register 88 = .ok (.aload_n 0, 1) := by decide +kernel
theorem dXT_register_89 : decode cXT_register 89 = .ok (.getfield 61, 3) := by decide +kernel
theorem dXT_register_92 : decode cXT_register 92 = .ok (.invokevirtual 90, 3) := by decide +kernel
theorem dXT_register_95 : decode cXT_register 95 = .ok (.ireturn, 1) := by decide +kernel
theorem dXT_register_96 : decode cXT_register 96 = .ok (.aload_n 0, 1) := by decide +kernel
theorem dXT_register_97 : decode cXT_register 97 = .ok (.getfield 61, 3) := by decide +kernel
theorem dXT_register_100 : decode cXT_register 100 = .ok (.getfield 93, 3) := by decide +kernel
theorem dXT_register_103 : decode cXT_register 103 = .ok (.ifCond .eq 7, 3) := by decide +kernel
theorem dXT_register_106 : decode cXT_register 106 = .ok (.iconst 1, 1) := by decide +kernel
theorem dXT_register_107 : decode cXT_register 107 = .ok (.goto 4, 3) := by decide +kernel
theorem dXT_register_110 : decode cXT_register 110 = .ok (.iconst 0, 1) := by decide +kernel
theorem dXT_register_111 : decode cXT_register 111 = .ok (.aload_n 0, 1) := by decide +kernel
theorem dXT_register_112 : decode cXT_register 112 = .ok (.getfield 25, 3) := by decide +kernel
theorem dXT_register_115 : decode cXT_register 115 = .ok (.invokevirtual 97, 3) := by decide +kernel
theorem dXT_register_118 : decode cXT_register 118 = .ok (.ifCond .eq 7, 3) := by decide +kernel
theorem dXT_register_121 : decode cXT_register 121 = .ok (.iconst 2, 1) := by decide +kernel
theorem dXT_register_122 : decode cXT_register 122 = .ok (.goto 4, 3) := by decide +kernel
theorem dXT_register_125 : decode cXT_register 125 = .ok (.iconst 0, 1) := by decide +kernel
theorem dXT_register_126 : decode cXT_register 126 = .ok (.iadd, 1) := by decide +kernel
theorem dXT_register_127 : decode cXT_register 127 = .ok (.ireturn, 1) := by decide +kernel
theorem dXT_register_128 : decode cXT_register 128 = .ok (.aload_n 0, 1) := by decide +kernel
theorem dXT_register_129 : decode cXT_register 129 = .ok (.getfield 18, 3) := by decide +kernel
theorem dXT_register_132 : decode cXT_register 132 = .ok (.getfield 101, 3) := by decide +kernel
theorem dXT_register_135 : decode cXT_register 135 = .ok (.ireturn, 1) := by decide +kernel
theorem dXT_register_136 : decode cXT_register 136 = .ok (.aload_n 0, 1) := by decide +kernel
theorem dXT_register_137 : decode cXT_register 137 = .ok (.getfield 18, 3) := by decide +kernel
theorem dXT_register_140 : decode cXT_register 140 = .ok (.getfield 104, 3) := by decide +kernel
theorem dXT_register_143 : decode cXT_register 143 = .ok (.ireturn, 1) := by decide +kernel
theorem dXT_register_144 : decode cXT_register 144 = .ok (.aload_n 0, 1) := by decide +kernel
theorem dXT_register_145 : decode cXT_register 145 = .ok (.getfield 18, 3) := by decide +kernel
theorem dXT_register_148 : decode cXT_register 148 = .ok (.getfield 107, 3) := by decide +kernel
theorem dXT_register_151 : decode cXT_register 151 = .ok (.ireturn, 1) := by decide +kernel
theorem dXT_register_152 : decode cXT_register 152 = .ok (.aload_n 0, 1) := by decide +kernel
theorem dXT_register_153 : decode cXT_register 153 = .ok (.getfield 18, 3) := by decide +kernel
theorem dXT_register_156 : decode cXT_register 156 = .ok (.getfield 110, 3) := by decide +kernel
theorem dXT_register_159 : decode cXT_register 159 = .ok (.ireturn, 1) := by decide +kernel
theorem dXT_register_160 : decode cXT_register 160 = .ok (.aload_n 0, 1) := by decide +kernel
theorem dXT_register_161 : decode cXT_register 161 = .ok (.getfield 18, 3) := by decide +kernel
theorem dXT_register_164 : decode cXT_register 164 = .ok (.invokevirtual 111, 3) := by decide +kernel
theorem dXT_register_167 : decode cXT_register 167 = .ok (.ireturn, 1) := by decide +kernel
theorem dXT_register_168 : decode cXT_register 168 = .ok (.iconst (-1), 1) := by decide +kernel
theorem dXT_register_169 : decode cXT_register 169 = .ok (.ireturn, 1) := by decide +kernel
theorem dXT_seed_0 : decode cXT_seed 0 = .ok (.iload_n 1, 1) := by decide +kernel
theorem dXT_seed_1 : decode cXT_seed 1 = .ok (.ifCond .lt 15, 3) := by decide +kernel
theorem dXT_seed_4 : decode cXT_seed 4 = .ok (.iload_n 1, 1) := by decide +kernel
theorem dXT_seed_5 : decode cXT_seed 5 = .ok (.aload_n 0, 1) := by decide +kernel
theorem dXT_seed_6 : decode cXT_seed 6 = .ok (.getfield 18, 3) := by decide +kernel
theorem dXT_seed_9 : decode cXT_seed 9 = .ok (.getfield 114, 3) := by decide +kernel
theorem dXT_seed_12 : decode cXT_seed 12 = .ok (.arraylength, 1) := by decide +kernel
theorem dXT_seed_13 : decode cXT_seed 13 = .ok (.if_icmp .lt 5, 3) := by decide +kernel
theorem dXT_seed_16 : decode cXT_seed 16 = .ok (.iconst 0, 1) := by decide +kernel
theorem dXT_seed_17 : decode cXT_seed 17 = .ok (.ireturn, 1) := by decide +kernel
theorem dXT_seed_18 : decode cXT_seed 18 = .ok (.aload_n 0, 1) := by decide +kernel
theorem dXT_seed_19 : decode cXT_seed 19 = .ok (.getfield 18, 3) := by decide +kernel
theorem dXT_seed_22 : decode cXT_seed 22 = .ok (.getfield 114, 3) := by decide +kernel
theorem dXT_seed_25 : decode cXT_seed 25 = .ok (.iload_n 1, 1) := by decide +kernel
theorem dXT_seed_26 : decode cXT_seed 26 = .ok (.iload_n 2, 1) := by decide +kernel
theorem dXT_seed_27 : decode cXT_seed 27 = .ok (.sipush 255, 3) := by decide +kernel
theorem dXT_seed_30 : decode cXT_seed 30 = .ok (.iand, 1) := by decide +kernel
theorem dXT_seed_31 : decode cXT_seed 31 = .ok (.iastore, 1) := by decide +kernel
theorem dXT_seed_32 : decode cXT_seed 32 = .ok (.iconst 1, 1) := by decide +kernel
theorem dXT_seed_33 : decode cXT_seed 33 = .ok (.ireturn, 1) := by decide +kernel
theorem dXT_video_0 : decode cXT_video 0 = .ok (.iload_n 1, 1) := by decide +kernel
theorem dXT_video_1 : decode cXT_video 1 = .ok (.tableswitch 101 0 4 #[35, 59, 71, 83, 95], 35) := by decide +kernel
theorem dXT_video_36 : decode cXT_video 36 = .ok (.iload_n 2, 1) := by decide +kernel
theorem dXT_video_37 : decode cXT_video 37 = .ok (.ifCond .lt 21, 3) := by decide +kernel
theorem dXT_video_40 : decode cXT_video 40 = .ok (.iload_n 2, 1) := by decide +kernel
theorem dXT_video_41 : decode cXT_video 41 = .ok (.sipush 512, 3) := by decide +kernel
theorem dXT_video_44 : decode cXT_video 44 = .ok (.if_icmp .ge 14, 3) := by decide +kernel
theorem dXT_video_47 : decode cXT_video 47 = .ok (.aload_n 0, 1) := by decide +kernel
theorem dXT_video_48 : decode cXT_video 48 = .ok (.getfield 25, 3) := by decide +kernel
theorem dXT_video_51 : decode cXT_video 51 = .ok (.iload_n 2, 1) := by decide +kernel
theorem dXT_video_52 : decode cXT_video 52 = .ok (.invokevirtual 117, 3) := by decide +kernel
theorem dXT_video_55 : decode cXT_video 55 = .ok (.goto 4, 3) := by decide +kernel
theorem dXT_video_58 : decode cXT_video 58 = .ok (.iconst (-1), 1) := by decide +kernel
theorem dXT_video_59 : decode cXT_video 59 = .ok (.ireturn, 1) := by decide +kernel
theorem dXT_video_60 : decode cXT_video 60 = .ok (.aload_n 0, 1) := by decide +kernel
theorem dXT_video_61 : decode cXT_video 61 = .ok (.getfield 25, 3) := by decide +kernel
theorem dXT_video_64 : decode cXT_video 64 = .ok (.getfield 120, 3) := by decide +kernel
theorem dXT_video_67 : decode cXT_video 67 = .ok (.iload_n 2, 1) := by decide +kernel
theorem dXT_video_68 : decode cXT_video 68 = .ok (.invokestatic 123, 3) := by decide +kernel
theorem dXT_video_71 : decode cXT_video 71 = .ok (.ireturn, 1) := by decide +kernel
theorem dXT_video_72 : decode cXT_video 72 = .ok (.aload_n 0, 1) := by decide +kernel
theorem dXT_video_73 : decode cXT_video 73 = .ok (.getfield 25, 3) := by decide +kernel
theorem dXT_video_76 : decode cXT_video 76 = .ok (.getfield 127, 3) := by decide +kernel
theorem dXT_video_79 : decode cXT_video 79 = .ok (.iload_n 2, 1) := by decide +kernel
theorem dXT_video_80 : decode cXT_video 80 = .ok (.invokestatic 123, 3) := by decide +kernel
theorem dXT_video_83 : decode cXT_video 83 = .ok (.ireturn, 1) := by decide +kernel
theorem dXT_video_84 : decode cXT_video 84 = .ok (.aload_n 0, 1) := by decide +kernel
theorem dXT_video_85 : decode cXT_video 85 = .ok (.getfield 25, 3) := by decide +kernel
theorem dXT_video_88 : decode cXT_video 88 = .ok (.getfield 130, 3) := by decide +kernel
theorem dXT_video_91 : decode cXT_video 91 = .ok (.iload_n 2, 1) := by decide +kernel
theorem dXT_video_92 : decode cXT_video 92 = .ok (.invokestatic 123, 3) := by decide +kernel
theorem dXT_video_95 : decode cXT_video 95 = .ok (.ireturn, 1) := by decide +kernel
theorem dXT_video_96 : decode cXT_video 96 = .ok (.aload_n 0, 1) := by decide +kernel
theorem dXT_video_97 : decode cXT_video 97 = .ok (.iload_n 2, 1) := by decide +kernel
theorem dXT_video_98 : decode cXT_video 98 = .ok (.invokevirtual 133, 3) := by decide +kernel
theorem dXT_video_101 : decode cXT_video 101 = .ok (.ireturn, 1) := by decide +kernel
theorem dXT_video_102 : decode cXT_video 102 = .ok (.iconst (-1), 1) := by decide +kernel
theorem dXT_video_103 : decode cXT_video 103 = .ok (.ireturn, 1) := by decide +kernel
theorem dXT_pixel_0 : decode cXT_pixel 0 = .ok (.iload_n 1, 1) := by decide +kernel
theorem dXT_pixel_1 : decode cXT_pixel 1 = .ok (.ifCond .lt 19, 3) := by decide +kernel
theorem dXT_pixel_4 : decode cXT_pixel 4 = .ok (.iload_n 1, 1) := by decide +kernel
theorem dXT_pixel_5 : decode cXT_pixel 5 = .ok (.bipush 16, 2) := by decide +kernel
theorem dXT_pixel_7 : decode cXT_pixel 7 = .ok (.if_icmp .ge 13, 3) := by decide +kernel
theorem dXT_pixel_10 : decode cXT_pixel 10 = .ok (.iload_n 2, 1) := by decide +kernel
theorem dXT_pixel_11 : decode cXT_pixel 11 = .ok (.ifCond .lt 9, 3) := by decide +kernel
theorem dXT_pixel_14 : decode cXT_pixel 14 = .ok (.iload_n 2, 1) := by decide +kernel
theorem dXT_pixel_15 : decode cXT_pixel 15 = .ok (.bipush 8, 2) := by decide +kernel
theorem dXT_pixel_17 : decode cXT_pixel 17 = .ok (.if_icmp .lt 5, 3) := by decide +kernel
theorem dXT_pixel_20 : decode cXT_pixel 20 = .ok (.iconst (-1), 1) := by decide +kernel
theorem dXT_pixel_21 : decode cXT_pixel 21 = .ok (.ireturn, 1) := by decide +kernel
theorem dXT_pixel_22 : decode cXT_pixel 22 = .ok (.aload_n 0, 1) := by decide +kernel
theorem dXT_pixel_23 : decode cXT_pixel 23 = .ok (.getfield 34, 3) := by decide +kernel
theorem dXT_pixel_26 : decode cXT_pixel 26 = .ok (.getfield 136, 3) := by decide +kernel
theorem dXT_pixel_29 : decode cXT_pixel 29 = .ok (.iload_n 2, 1) := by decide +kernel
theorem dXT_pixel_30 : decode cXT_pixel 30 = .ok (.bipush 16, 2) := by decide +kernel
theorem dXT_pixel_32 : decode cXT_pixel 32 = .ok (.imul, 1) := by decide +kernel
theorem dXT_pixel_33 : decode cXT_pixel 33 = .ok (.iload_n 1, 1) := by decide +kernel
theorem dXT_pixel_34 : decode cXT_pixel 34 = .ok (.iadd, 1) := by decide +kernel
theorem dXT_pixel_35 : decode cXT_pixel 35 = .ok (.iaload, 1) := by decide +kernel
theorem dXT_pixel_36 : decode cXT_pixel 36 = .ok (.ireturn, 1) := by decide +kernel
theorem dXT_elementOrNone_0 : decode cXT_elementOrNone 0 = .ok (.iload_n 1, 1) := by decide +kernel
theorem dXT_elementOrNone_1 : decode cXT_elementOrNone 1 = .ok (.ifCond .lt 15, 3) := by decide +kernel
theorem dXT_elementOrNone_4 : decode cXT_elementOrNone 4 = .ok (.iload_n 1, 1) := by decide +kernel
theorem dXT_elementOrNone_5 : decode cXT_elementOrNone 5 = .ok (.aload_n 0, 1) := by decide +kernel
theorem dXT_elementOrNone_6 : decode cXT_elementOrNone 6 = .ok (.arraylength, 1) := by decide +kernel
theorem dXT_elementOrNone_7 : decode cXT_elementOrNone 7 = .ok (.if_icmp .ge 9, 3) := by decide +kernel
theorem dXT_elementOrNone_10 : decode cXT_elementOrNone 10 = .ok (.aload_n 0, 1) := by decide +kernel
theorem dXT_elementOrNone_11 : decode cXT_elementOrNone 11 = .ok (.iload_n 1, 1) := by decide +kernel
theorem dXT_elementOrNone_12 : decode cXT_elementOrNone 12 = .ok (.iaload, 1) := by decide +kernel
theorem dXT_elementOrNone_13 : decode cXT_elementOrNone 13 = .ok (.goto 4, 3) := by decide +kernel
theorem dXT_elementOrNone_16 : decode cXT_elementOrNone 16 = .ok (.iconst (-1), 1) := by decide +kernel
theorem dXT_elementOrNone_17 : decode cXT_elementOrNone 17 = .ok (.ireturn, 1) := by decide +kernel
theorem dXT_portState_0 : decode cXT_portState 0 = .ok (.iload_n 1, 1) := by decide +kernel
theorem dXT_portState_1 : decode cXT_portState 1 = .ok (.tableswitch 96 0 3 #[31, 39, 47, 63], 31) := by decide +kernel
theorem dXT_portState_32 : decode cXT_portState 32 = .ok (.aload_n 0, 1) := by decide +kernel
theorem dXT_portState_33 : decode cXT_portState 33 = .ok (.getfield 25, 3) := by decide +kernel
theorem dXT_portState_36 : decode cXT_portState 36 = .ok (.getfield 139, 3) := by decide +kernel
theorem dXT_portState_39 : decode cXT_portState 39 = .ok (.ireturn, 1) := by decide +kernel
theorem dXT_portState_40 : decode cXT_portState 40 = .ok (.aload_n 0, 1) := by decide +kernel
theorem dXT_portState_41 : decode cXT_portState 41 = .ok (.getfield 25, 3) := by decide +kernel
theorem dXT_portState_44 : decode cXT_portState 44 = .ok (.getfield 142, 3) := by decide +kernel
theorem dXT_portState_47 : decode cXT_portState 47 = .ok (.ireturn, 1) := by decide +kernel
theorem dXT_portState_48 : decode cXT_portState 48 = .ok (.aload_n 0, 1) := by decide +kernel
theorem dXT_portState_49 : decode cXT_portState 49 = .ok (.getfield 25, 3) := by decide +kernel
theorem dXT_portState_52 : decode cXT_portState 52 = .ok (.getfield 145, 3) := by decide +kernel
theorem dXT_portState_55 : decode cXT_portState 55 = .ok (.ifCond .eq 7, 3) := by decide +kernel
theorem dXT_portState_58 : decode cXT_portState 58 = .ok (.iconst 1, 1) := by decide +kernel
theorem dXT_portState_59 : decode cXT_portState 59 = .ok (.goto 4, 3) := by decide +kernel
theorem dXT_portState_62 : decode cXT_portState 62 = .ok (.iconst 0, 1) := by decide +kernel
theorem dXT_portState_63 : decode cXT_portState 63 = .ok (.ireturn, 1) := by decide +kernel
theorem dXT_portState_64 : decode cXT_portState 64 = .ok (.aload_n 0, 1) := by decide +kernel
theorem dXT_portState_65 : decode cXT_portState 65 = .ok (.getfield 43, 3) := by decide +kernel
theorem dXT_portState_68 : decode cXT_portState 68 = .ok (.getfield 148, 3) := by decide +kernel
theorem dXT_portState_71 : decode cXT_portState 71 = .ok (.ifCond .eq 7, 3) := by decide +kernel
theorem dXT_portState_74 : decode cXT_portState 74 = .ok (.iconst 4, 1) := by decide +kernel
theorem dXT_portState_75 : decode cXT_portState 75 = .ok (.goto 4, 3) := by decide +kernel
theorem dXT_portState_78 : decode cXT_portState 78 = .ok (.iconst 0, 1) := by decide +kernel
theorem dXT_portState_79 : decode cXT_portState 79 = .ok (.aload_n 0, 1) := by decide +kernel
theorem dXT_portState_80 : decode cXT_portState 80 = .ok (.getfield 43, 3) := by decide +kernel
theorem dXT_portState_83 : decode cXT_portState 83 = .ok (.getfield 151, 3) := by decide +kernel
theorem dXT_portState_86 : decode cXT_portState 86 = .ok (.ifCond .eq 8, 3) := by decide +kernel
theorem dXT_portState_89 : decode cXT_portState 89 = .ok (.bipush 6, 2) := by decide +kernel
theorem dXT_portState_91 : decode cXT_portState 91 = .ok (.goto 4, 3) := by decide +kernel
theorem dXT_portState_94 : decode cXT_portState 94 = .ok (.iconst 0, 1) := by decide +kernel
theorem dXT_portState_95 : decode cXT_portState 95 = .ok (.iadd, 1) := by decide +kernel
theorem dXT_portState_96 : decode cXT_portState 96 = .ok (.ireturn, 1) := by decide +kernel
theorem dXT_portState_97 : decode cXT_portState 97 = .ok (.iconst (-1), 1) := by decide +kernel
theorem dXT_portState_98 : decode cXT_portState 98 = .ok (.ireturn, 1) := by decide +kernel
theorem dXT_oneStep_0 : decode cXT_oneStep 0 = .ok (.iconst 0, 1) := by decide +kernel
theorem dXT_oneStep_1 : decode cXT_oneStep 1 = .ok (.istore_n 2, 1) := by decide +kernel
theorem dXT_oneStep_2 : decode cXT_oneStep 2 = .ok (.aload_n 0, 1) := by decide +kernel
theorem dXT_oneStep_3 : decode cXT_oneStep 3 = .ok (.getfield 43, 3) := by decide +kernel
theorem dXT_oneStep_6 : decode cXT_oneStep 6 = .ok (.aload_n 0, 1) := by decide +kernel
theorem dXT_oneStep_7 : decode cXT_oneStep 7 = .ok (.getfield 61, 3) := by decide +kernel
theorem dXT_oneStep_10 : decode cXT_oneStep 10 = .ok (.getfield 154, 3) := by decide +kernel
theorem dXT_oneStep_13 : decode cXT_oneStep 13 = .ok (.invokevirtual 157, 3) := by decide +kernel
theorem dXT_oneStep_16 : decode cXT_oneStep 16 = .ok (.istore_n 3, 1) := by decide +kernel
theorem dXT_oneStep_17 : decode cXT_oneStep 17 = .ok (.aload_n 0, 1) := by decide +kernel
theorem dXT_oneStep_18 : decode cXT_oneStep 18 = .ok (.getfield 25, 3) := by decide +kernel
theorem dXT_oneStep_21 : decode cXT_oneStep 21 = .ok (.invokevirtual 97, 3) := by decide +kernel
theorem dXT_oneStep_24 : decode cXT_oneStep 24 = .ok (.ifCond .eq 15, 3) := by decide +kernel
theorem dXT_oneStep_27 : decode cXT_oneStep 27 = .ok (.aload_n 0, 1) := by decide +kernel
theorem dXT_oneStep_28 : decode cXT_oneStep 28 = .ok (.getfield 52, 3) := by decide +kernel
theorem dXT_oneStep_31 : decode cXT_oneStep 31 = .ok (.invokevirtual 160, 3) := by decide +kernel
theorem dXT_oneStep_34 : decode cXT_oneStep 34 = .ok (.iconst 2, 1) := by decide +kernel
theorem dXT_oneStep_35 : decode cXT_oneStep 35 = .ok (.istore_n 1, 1) := by decide +kernel
theorem dXT_oneStep_36 : decode cXT_oneStep 36 = .ok (.goto 58, 3) := by decide +kernel
theorem dXT_oneStep_39 : decode cXT_oneStep 39 = .ok (.iload_n 3, 1) := by decide +kernel
theorem dXT_oneStep_40 : decode cXT_oneStep 40 = .ok (.ifCond .eq 23, 3) := by decide +kernel
theorem dXT_oneStep_43 : decode cXT_oneStep 43 = .ok (.aload_n 0, 1) := by decide +kernel
theorem dXT_oneStep_44 : decode cXT_oneStep 44 = .ok (.getfield 43, 3) := by decide +kernel
theorem dXT_oneStep_47 : decode cXT_oneStep 47 = .ok (.iload_n 3, 1) := by decide +kernel
theorem dXT_oneStep_48 : decode cXT_oneStep 48 = .ok (.invokevirtual 163, 3) := by decide +kernel
theorem dXT_oneStep_51 : decode cXT_oneStep 51 = .ok (.aload_n 0, 1) := by decide +kernel
theorem dXT_oneStep_52 : decode cXT_oneStep 52 = .ok (.getfield 61, 3) := by decide +kernel
theorem dXT_oneStep_55 : decode cXT_oneStep 55 = .ok (.iload_n 3, 1) := by decide +kernel
theorem dXT_oneStep_56 : decode cXT_oneStep 56 = .ok (.invokevirtual 167, 3) := by decide +kernel
theorem dXT_oneStep_59 : decode cXT_oneStep 59 = .ok (.istore_n 1, 1) := by decide +kernel
theorem dXT_oneStep_60 : decode cXT_oneStep 60 = .ok (.goto 34, 3) := by decide +kernel
theorem dXT_oneStep_63 : decode cXT_oneStep 63 = .ok (.aload_n 0, 1) := by decide +kernel
theorem dXT_oneStep_64 : decode cXT_oneStep 64 = .ok (.getfield 61, 3) := by decide +kernel
theorem dXT_oneStep_67 : decode cXT_oneStep 67 = .ok (.getfield 93, 3) := by decide +kernel
theorem dXT_oneStep_70 : decode cXT_oneStep 70 = .ok (.ifCond .eq 8, 3) := by decide +kernel
theorem dXT_oneStep_73 : decode cXT_oneStep 73 = .ok (.iconst 4, 1) := by decide +kernel
theorem dXT_oneStep_74 : decode cXT_oneStep 74 = .ok (.istore_n 1, 1) := by decide +kernel
theorem dXT_oneStep_75 : decode cXT_oneStep 75 = .ok (.goto 19, 3) := by decide +kernel
theorem dXT_oneStep_78 : decode cXT_oneStep 78 = .ok (.aload_n 0, 1) := by decide +kernel
theorem dXT_oneStep_79 : decode cXT_oneStep 79 = .ok (.getfield 18, 3) := by decide +kernel
theorem dXT_oneStep_82 : decode cXT_oneStep 82 = .ok (.invokevirtual 170, 3) := by decide +kernel
theorem dXT_oneStep_85 : decode cXT_oneStep 85 = .ok (.istore_n 2, 1) := by decide +kernel
theorem dXT_oneStep_86 : decode cXT_oneStep 86 = .ok (.aload_n 0, 1) := by decide +kernel
theorem dXT_oneStep_87 : decode cXT_oneStep 87 = .ok (.getfield 61, 3) := by decide +kernel
theorem dXT_oneStep_90 : decode cXT_oneStep 90 = .ok (.invokevirtual 173, 3) := by decide +kernel
theorem dXT_oneStep_93 : decode cXT_oneStep 93 = .ok (.istore_n 1, 1) := by decide +kernel
theorem dXT_oneStep_94 : decode cXT_oneStep 94 = .ok (.aload_n 0, 1) := by decide +kernel
theorem dXT_oneStep_95 : decode cXT_oneStep 95 = .ok (.getfield 18, 3) := by decide +kernel
theorem dXT_oneStep_98 : decode cXT_oneStep 98 = .ok (.iload_n 1, 1) := by decide +kernel
theorem dXT_oneStep_99 : decode cXT_oneStep 99 = .ok (.invokevirtual 176, 3) := by decide +kernel
theorem dXT_oneStep_102 : decode cXT_oneStep 102 = .ok (.aload_n 0, 1) := by decide +kernel
theorem dXT_oneStep_103 : decode cXT_oneStep 103 = .ok (.getfield 43, 3) := by decide +kernel
theorem dXT_oneStep_106 : decode cXT_oneStep 106 = .ok (.iload_n 1, 1) := by decide +kernel
theorem dXT_oneStep_107 : decode cXT_oneStep 107 = .ok (.iload_n 2, 1) := by decide +kernel
theorem dXT_oneStep_108 : decode cXT_oneStep 108 = .ok (.iadd, 1) := by decide +kernel
theorem dXT_oneStep_109 : decode cXT_oneStep 109 = .ok (.invokevirtual 179, 3) := by decide +kernel
theorem dXT_oneStep_112 : decode cXT_oneStep 112 = .ok (.iload_n 1, 1) := by decide +kernel
theorem dXT_oneStep_113 : decode cXT_oneStep 113 = .ok (.iload_n 2, 1) := by decide +kernel
theorem dXT_oneStep_114 : decode cXT_oneStep 114 = .ok (.iadd, 1) := by decide +kernel
theorem dXT_oneStep_115 : decode cXT_oneStep 115 = .ok (.ireturn, 1) := by decide +kernel
theorem dXU_init_0 : decode cXU_init 0 = .ok (.aload_n 0, 1) := by decide +kernel
theorem dXU_init_1 : decode cXU_init 1 = .ok (.invokespecial 1, 3) := by decide +kernel
theorem dXU_init_4 : decode cXU_init 4 = .ok (.aload_n 0, 1) := by decide +kernel
theorem dXU_init_5 : decode cXU_init 5 = .ok (.aload_n 1, 1) := by decide +kernel
theorem dXU_init_6 : decode cXU_init 6 = .ok (.putfield 7, 3) := by decide +kernel
theorem dXU_init_9 : decode cXU_init 9 = .ok (.aload_n 0, 1) := by decide +kernel
theorem dXU_init_10 : decode cXU_init 10 = .ok (.aload_n 2, 1) := by decide +kernel
theorem dXU_init_11 : decode cXU_init 11 = .ok (.putfield 13, 3) := by decide +kernel
theorem dXU_init_14 : decode cXU_init 14 = .ok (.aload_n 0, 1) := by decide +kernel
theorem dXU_init_15 : decode cXU_init 15 = .ok (.aload_n 3, 1) := by decide +kernel
theorem dXU_init_16 : decode cXU_init 16 = .ok (.putfield 17, 3) := by decide +kernel
theorem dXU_init_19 : decode cXU_init 19 = .ok (.aload_n 0, 1) := by decide +kernel
theorem dXU_init_20 : decode cXU_init 20 = .ok (.aload 4, 2) := by decide +kernel
theorem dXU_init_22 : decode cXU_init 22 = .ok (.putfield 21, 3) := by decide +kernel
theorem dXU_init_25 : decode cXU_init 25 = .ok (.aload_n 0, 1) := by decide +kernel
theorem dXU_init_26 : decode cXU_init 26 = .ok (.aload 5, 2) := by decide +kernel
theorem dXU_init_28 : decode cXU_init 28 = .ok (.putfield 25, 3) := by decide +kernel
theorem dXU_init_31 : decode cXU_init 31 = .ok (.aload_n 0, 1) := by decide +kernel
theorem dXU_init_32 : decode cXU_init 32 = .ok (.bipush 64, 2) := by decide +kernel
theorem dXU_init_34 : decode cXU_init 34 = .ok (.newarray .int, 2) := by decide +kernel
theorem dXU_init_36 : decode cXU_init 36 = .ok (.putfield 29, 3) := by decide +kernel
theorem dXU_init_39 : decode cXU_init 39 = .ok (.return_, 1) := by decide +kernel
theorem dXU_readQuietly_0 : decode cXU_readQuietly 0 = .ok (.iload_n 1, 1) := by decide +kernel
theorem dXU_readQuietly_1 : decode cXU_readQuietly 1 = .ok (.iconst 1, 1) := by decide +kernel
theorem dXU_readQuietly_2 : decode cXU_readQuietly 2 = .ok (.iand, 1) := by decide +kernel
theorem dXU_readQuietly_3 : decode cXU_readQuietly 3 = .ok (.ifCond .ne 7, 3) := by decide +kernel
theorem dXU_readQuietly_6 : decode cXU_readQuietly 6 = .ok (.iload_n 1, 1) := by decide +kernel
theorem dXU_readQuietly_7 : decode cXU_readQuietly 7 = .ok (.ifCond .ge 5, 3) := by decide +kernel
theorem dXU_readQuietly_10 : decode cXU_readQuietly 10 = .ok (.iconst 0, 1) := by decide +kernel
theorem dXU_readQuietly_11 : decode cXU_readQuietly 11 = .ok (.ireturn, 1) := by decide +kernel
theorem dXU_readQuietly_12 : decode cXU_readQuietly 12 = .ok (.iload_n 1, 1) := by decide +kernel
theorem dXU_readQuietly_13 : decode cXU_readQuietly 13 = .ok (.sipush 512, 3) := by decide +kernel
theorem dXU_readQuietly_16 : decode cXU_readQuietly 16 = .ok (.if_icmp .ge 12, 3) := by decide +kernel
theorem dXU_readQuietly_19 : decode cXU_readQuietly 19 = .ok (.aload_n 0, 1) := by decide +kernel
theorem dXU_readQuietly_20 : decode cXU_readQuietly 20 = .ok (.getfield 7, 3) := by decide +kernel
theorem dXU_readQuietly_23 : decode cXU_readQuietly 23 = .ok (.iload_n 1, 1) := by decide +kernel
theorem dXU_readQuietly_24 : decode cXU_readQuietly 24 = .ok (.iconst 1, 1) := by decide +kernel
theorem dXU_readQuietly_25 : decode cXU_readQuietly 25 = .ok (.ishr, 1) := by decide +kernel
theorem dXU_readQuietly_26 : decode cXU_readQuietly 26 = .ok (.iaload, 1) := by decide +kernel
theorem dXU_readQuietly_27 : decode cXU_readQuietly 27 = .ok (.ireturn, 1) := by decide +kernel
theorem dXU_readQuietly_28 : decode cXU_readQuietly 28 = .ok (.iload_n 1, 1) := by decide +kernel
theorem dXU_readQuietly_29 : decode cXU_readQuietly 29 = .ok (.sipush 640, 3) := by decide +kernel
theorem dXU_readQuietly_32 : decode cXU_readQuietly 32 = .ok (.if_icmp .ge 16, 3) := by decide +kernel
theorem dXU_readQuietly_35 : decode cXU_readQuietly 35 = .ok (.aload_n 0, 1) := by decide +kernel
theorem dXU_readQuietly_36 : decode cXU_readQuietly 36 = .ok (.getfield 29, 3) := by decide +kernel
theorem dXU_readQuietly_39 : decode cXU_readQuietly 39 = .ok (.iload_n 1, 1) := by decide +kernel
theorem dXU_readQuietly_40 : decode cXU_readQuietly 40 = .ok (.sipush 512, 3) := by decide +kernel
theorem dXU_readQuietly_43 : decode cXU_readQuietly 43 = .ok (.isub, 1) := by decide +kernel
theorem dXU_readQuietly_44 : decode cXU_readQuietly 44 = .ok (.iconst 1, 1) := by decide +kernel
theorem dXU_readQuietly_45 : decode cXU_readQuietly 45 = .ok (.ishr, 1) := by decide +kernel
theorem dXU_readQuietly_46 : decode cXU_readQuietly 46 = .ok (.iaload, 1) := by decide +kernel
theorem dXU_readQuietly_47 : decode cXU_readQuietly 47 = .ok (.ireturn, 1) := by decide +kernel
theorem dXU_readQuietly_48 : decode cXU_readQuietly 48 = .ok (.iload_n 1, 1) := by decide +kernel
theorem dXU_readQuietly_49 : decode cXU_readQuietly 49 = .ok (.sipush 768, 3) := by decide +kernel
theorem dXU_readQuietly_52 : decode cXU_readQuietly 52 = .ok (.if_icmp .lt 38, 3) := by decide +kernel
theorem dXU_readQuietly_55 : decode cXU_readQuietly 55 = .ok (.iload_n 1, 1) := by decide +kernel
theorem dXU_readQuietly_56 : decode cXU_readQuietly 56 = .ok (.sipush 896, 3) := by decide +kernel
theorem dXU_readQuietly_59 : decode cXU_readQuietly 59 = .ok (.if_icmp .ge 31, 3) := by decide +kernel
theorem dXU_readQuietly_62 : decode cXU_readQuietly 62 = .ok (.aload_n 0, 1) := by decide +kernel
theorem dXU_readQuietly_63 : decode cXU_readQuietly 63 = .ok (.getfield 13, 3) := by decide +kernel
theorem dXU_readQuietly_66 : decode cXU_readQuietly 66 = .ok (.invokevirtual 32, 3) := by decide +kernel
theorem dXU_readQuietly_69 : decode cXU_readQuietly 69 = .ok (.ifCond .eq 21, 3) := by decide +kernel
theorem dXU_readQuietly_72 : decode cXU_readQuietly 72 = .ok (.aload_n 0, 1) := by decide +kernel
theorem dXU_readQuietly_73 : decode cXU_readQuietly 73 = .ok (.getfield 13, 3) := by decide +kernel
theorem dXU_readQuietly_76 : decode cXU_readQuietly 76 = .ok (.getfield 38, 3) := by decide +kernel
theorem dXU_readQuietly_79 : decode cXU_readQuietly 79 = .ok (.iload_n 1, 1) := by decide +kernel
theorem dXU_readQuietly_80 : decode cXU_readQuietly 80 = .ok (.sipush 768, 3) := by decide +kernel
theorem dXU_readQuietly_83 : decode cXU_readQuietly 83 = .ok (.isub, 1) := by decide +kernel
theorem dXU_readQuietly_84 : decode cXU_readQuietly 84 = .ok (.iaload, 1) := by decide +kernel
theorem dXU_readQuietly_85 : decode cXU_readQuietly 85 = .ok (.sipush 257, 3) := by decide +kernel
theorem dXU_readQuietly_88 : decode cXU_readQuietly 88 = .ok (.imul, 1) := by decide +kernel
theorem dXU_readQuietly_89 : decode cXU_readQuietly 89 = .ok (.ireturn, 1) := by decide +kernel
theorem dXU_readQuietly_90 : decode cXU_readQuietly 90 = .ok (.iconst 0, 1) := by decide +kernel
theorem dXU_readQuietly_91 : decode cXU_readQuietly 91 = .ok (.ireturn, 1) := by decide +kernel
theorem dXU_read_0 : decode cXU_read 0 = .ok (.iload_n 1, 1) := by decide +kernel
theorem dXU_read_1 : decode cXU_read 1 = .ok (.lookupswitch 107 #[(1024, 51), (1028, 59), (1032, 64), (1040, 84), (1048, 102)], 51) := by decide +kernel
theorem dXU_read_52 : decode cXU_read 52 = .ok (.aload_n 0, 1) := by decide +kernel
theorem dXU_read_53 : decode cXU_read 53 = .ok (.getfield 17, 3) := by decide +kernel
theorem dXU_read_56 : decode cXU_read 56 = .ok (.invokevirtual 39, 3) := by decide +kernel
theorem dXU_read_59 : decode cXU_read 59 = .ok (.ireturn, 1) := by decide +kernel
theorem dXU_read_60 : decode cXU_read 60 = .ok (.aload_n 0, 1) := by decide +kernel
theorem dXU_read_61 : decode cXU_read 61 = .ok (.invokevirtual 45, 3) := by decide +kernel
theorem dXU_read_64 : decode cXU_read 64 = .ok (.ireturn, 1) := by decide +kernel
theorem dXU_read_65 : decode cXU_read 65 = .ok (.aload_n 0, 1) := by decide +kernel
theorem dXU_read_66 : decode cXU_read 66 = .ok (.getfield 25, 3) := by decide +kernel
theorem dXU_read_69 : decode cXU_read 69 = .ok (.getfield 48, 3) := by decide +kernel
theorem dXU_read_72 : decode cXU_read 72 = .ok (.sipush 256, 3) := by decide +kernel
theorem dXU_read_75 : decode cXU_read 75 = .ok (.imul, 1) := by decide +kernel
theorem dXU_read_76 : decode cXU_read 76 = .ok (.aload_n 0, 1) := by decide +kernel
theorem dXU_read_77 : decode cXU_read 77 = .ok (.getfield 25, 3) := by decide +kernel
theorem dXU_read_80 : decode cXU_read 80 = .ok (.getfield 54, 3) := by decide +kernel
theorem dXU_read_83 : decode cXU_read 83 = .ok (.iadd, 1) := by decide +kernel
theorem dXU_read_84 : decode cXU_read 84 = .ok (.ireturn, 1) := by decide +kernel
theorem dXU_read_85 : decode cXU_read 85 = .ok (.aload_n 0, 1) := by decide +kernel
theorem dXU_read_86 : decode cXU_read 86 = .ok (.getfield 13, 3) := by decide +kernel
theorem dXU_read_89 : decode cXU_read 89 = .ok (.getfield 57, 3) := by decide +kernel
theorem dXU_read_92 : decode cXU_read 92 = .ok (.ifCond .eq 7, 3) := by decide +kernel
theorem dXU_read_95 : decode cXU_read 95 = .ok (.iconst 0, 1) := by decide +kernel
theorem dXU_read_96 : decode cXU_read 96 = .ok (.goto 6, 3) := by decide +kernel
theorem dXU_read_99 : decode cXU_read 99 = .ok (.sipush 256, 3) := by decide +kernel
theorem dXU_read_102 : decode cXU_read 102 = .ok (.ireturn, 1) := by decide +kernel
theorem dXU_read_103 : decode cXU_read 103 = .ok (.aload_n 0, 1) := by decide +kernel
theorem dXU_read_104 : decode cXU_read 104 = .ok (.invokevirtual 61, 3) := by decide +kernel
theorem dXU_read_107 : decode cXU_read 107 = .ok (.ireturn, 1) := by decide +kernel
theorem dXU_read_108 : decode cXU_read 108 = .ok (.aload_n 0, 1) := by decide +kernel
theorem dXU_read_109 : decode cXU_read 109 = .ok (.iload_n 1, 1) := by decide +kernel
theorem dXU_read_110 : decode cXU_read 110 = .ok (.invokevirtual 64, 3) := by decide +kernel
theorem dXU_read_113 : decode cXU_read 113 = .ok (.ireturn, 1) := by decide +kernel
theorem dXU_write_0 : decode cXU_write 0 = .ok (.iload_n 1, 1) := by decide +kernel
theorem dXU_write_1 : decode cXU_write 1 = .ok (.lookupswitch 130 #[(1024, 51), (1028, 62), (1040, 73), (1044, 96), (1048, 119)], 51) := by decide +kernel
theorem dXU_write_52 : decode cXU_write 52 = .ok (.aload_n 0, 1) := by decide +kernel
theorem dXU_write_53 : decode cXU_write 53 = .ok (.getfield 17, 3) := by decide +kernel
theorem dXU_write_56 : decode cXU_write 56 = .ok (.iload_n 2, 1) := by decide +kernel
theorem dXU_write_57 : decode cXU_write 57 = .ok (.invokevirtual 68, 3) := by decide +kernel
theorem dXU_write_60 : decode cXU_write 60 = .ok (.goto 77, 3) := by decide +kernel
theorem dXU_write_63 : decode cXU_write 63 = .ok (.aload_n 0, 1) := by decide +kernel
theorem dXU_write_64 : decode cXU_write 64 = .ok (.getfield 17, 3) := by decide +kernel
theorem dXU_write_67 : decode cXU_write 67 = .ok (.iload_n 2, 1) := by decide +kernel
theorem dXU_write_68 : decode cXU_write 68 = .ok (.invokevirtual 72, 3) := by decide +kernel
theorem dXU_write_71 : decode cXU_write 71 = .ok (.goto 66, 3) := by decide +kernel
theorem dXU_write_74 : decode cXU_write 74 = .ok (.aload_n 0, 1) := by decide +kernel
theorem dXU_write_75 : decode cXU_write 75 = .ok (.getfield 13, 3) := by decide +kernel
theorem dXU_write_78 : decode cXU_write 78 = .ok (.iload_n 2, 1) := by decide +kernel
theorem dXU_write_79 : decode cXU_write 79 = .ok (.sipush 256, 3) := by decide +kernel
theorem dXU_write_82 : decode cXU_write 82 = .ok (.iand, 1) := by decide +kernel
theorem dXU_write_83 : decode cXU_write 83 = .ok (.ifCond .eq 7, 3) := by decide +kernel
theorem dXU_write_86 : decode cXU_write 86 = .ok (.iconst 1, 1) := by decide +kernel
theorem dXU_write_87 : decode cXU_write 87 = .ok (.goto 4, 3) := by decide +kernel
theorem dXU_write_90 : decode cXU_write 90 = .ok (.iconst 0, 1) := by decide +kernel
theorem dXU_write_91 : decode cXU_write 91 = .ok (.putfield 57, 3) := by decide +kernel
theorem dXU_write_94 : decode cXU_write 94 = .ok (.goto 43, 3) := by decide +kernel
theorem dXU_write_97 : decode cXU_write 97 = .ok (.aload_n 0, 1) := by decide +kernel
theorem dXU_write_98 : decode cXU_write 98 = .ok (.getfield 13, 3) := by decide +kernel
theorem dXU_write_101 : decode cXU_write 101 = .ok (.iload_n 2, 1) := by decide +kernel
theorem dXU_write_102 : decode cXU_write 102 = .ok (.sipush 256, 3) := by decide +kernel
theorem dXU_write_105 : decode cXU_write 105 = .ok (.iand, 1) := by decide +kernel
theorem dXU_write_106 : decode cXU_write 106 = .ok (.ifCond .ne 7, 3) := by decide +kernel
theorem dXU_write_109 : decode cXU_write 109 = .ok (.iconst 1, 1) := by decide +kernel
theorem dXU_write_110 : decode cXU_write 110 = .ok (.goto 4, 3) := by decide +kernel
theorem dXU_write_113 : decode cXU_write 113 = .ok (.iconst 0, 1) := by decide +kernel
theorem dXU_write_114 : decode cXU_write 114 = .ok (.invokevirtual 75, 3) := by decide +kernel
theorem dXU_write_117 : decode cXU_write 117 = .ok (.goto 20, 3) := by decide +kernel
theorem dXU_write_120 : decode cXU_write 120 = .ok (.aload_n 0, 1) := by decide +kernel
theorem dXU_write_121 : decode cXU_write 121 = .ok (.iload_n 2, 1) := by decide +kernel
theorem dXU_write_122 : decode cXU_write 122 = .ok (.bipush 64, 2) := by decide +kernel
theorem dXU_write_124 : decode cXU_write 124 = .ok (.iand, 1) := by decide +kernel
theorem dXU_write_125 : decode cXU_write 125 = .ok (.putfield 79, 3) := by decide +kernel
theorem dXU_write_128 : decode cXU_write 128 = .ok (.goto 9, 3) := by decide +kernel
theorem dXU_write_131 : decode cXU_write 131 = .ok (.aload_n 0, 1) := by decide +kernel
theorem dXU_write_132 : decode cXU_write 132 = .ok (.iload_n 1, 1) := by decide +kernel
theorem dXU_write_133 : decode cXU_write 133 = .ok (.iload_n 2, 1) := by decide +kernel
theorem dXU_write_134 : decode cXU_write 134 = .ok (.invokevirtual 82, 3) := by decide +kernel
theorem dXU_write_137 : decode cXU_write 137 = .ok (.return_, 1) := by decide +kernel
theorem dXU_moveWord_0 : decode cXU_moveWord 0 = .ok (.aload_n 0, 1) := by decide +kernel
theorem dXU_moveWord_1 : decode cXU_moveWord 1 = .ok (.getfield 17, 3) := by decide +kernel
theorem dXU_moveWord_4 : decode cXU_moveWord 4 = .ok (.getfield 86, 3) := by decide +kernel
theorem dXU_moveWord_7 : decode cXU_moveWord 7 = .ok (.istore_n 1, 1) := by decide +kernel
theorem dXU_moveWord_8 : decode cXU_moveWord 8 = .ok (.aload_n 0, 1) := by decide +kernel
theorem dXU_moveWord_9 : decode cXU_moveWord 9 = .ok (.getfield 17, 3) := by decide +kernel
theorem dXU_moveWord_12 : decode cXU_moveWord 12 = .ok (.iload_n 1, 1) := by decide +kernel
theorem dXU_moveWord_13 : decode cXU_moveWord 13 = .ok (.sipush 768, 3) := by decide +kernel
theorem dXU_moveWord_16 : decode cXU_moveWord 16 = .ok (.if_icmp .ge 11, 3) := by decide +kernel
theorem dXU_moveWord_19 : decode cXU_moveWord 19 = .ok (.aload_n 0, 1) := by decide +kernel
theorem dXU_moveWord_20 : decode cXU_moveWord 20 = .ok (.iload_n 1, 1) := by decide +kernel
theorem dXU_moveWord_21 : decode cXU_moveWord 21 = .ok (.invokevirtual 64, 3) := by decide +kernel
theorem dXU_moveWord_24 : decode cXU_moveWord 24 = .ok (.goto 4, 3) := by decide +kernel
theorem dXU_moveWord_27 : decode cXU_moveWord 27 = .ok (.iconst 0, 1) := by decide +kernel
theorem dXU_moveWord_28 : decode cXU_moveWord 28 = .ok (.invokevirtual 89, 3) := by decide +kernel
theorem dXU_moveWord_31 : decode cXU_moveWord 31 = .ok (.return_, 1) := by decide +kernel
theorem dXU_writeMemory_0 : decode cXU_writeMemory 0 = .ok (.iload_n 1, 1) := by decide +kernel
theorem dXU_writeMemory_1 : decode cXU_writeMemory 1 = .ok (.iconst 1, 1) := by decide +kernel
theorem dXU_writeMemory_2 : decode cXU_writeMemory 2 = .ok (.iand, 1) := by decide +kernel
theorem dXU_writeMemory_3 : decode cXU_writeMemory 3 = .ok (.ifCond .eq 4, 3) := by decide +kernel
theorem dXU_writeMemory_6 : decode cXU_writeMemory 6 = .ok (.return_, 1) := by decide +kernel
theorem dXU_writeMemory_7 : decode cXU_writeMemory 7 = .ok (.iload_n 1, 1) := by decide +kernel
theorem dXU_writeMemory_8 : decode cXU_writeMemory 8 = .ok (.sipush 512, 3) := by decide +kernel
theorem dXU_writeMemory_11 : decode cXU_writeMemory 11 = .ok (.if_icmp .lt 26, 3) := by decide +kernel
theorem dXU_writeMemory_14 : decode cXU_writeMemory 14 = .ok (.iload_n 1, 1) := by decide +kernel
theorem dXU_writeMemory_15 : decode cXU_writeMemory 15 = .ok (.sipush 640, 3) := by decide +kernel
theorem dXU_writeMemory_18 : decode cXU_writeMemory 18 = .ok (.if_icmp .ge 19, 3) := by decide +kernel
theorem dXU_writeMemory_21 : decode cXU_writeMemory 21 = .ok (.aload_n 0, 1) := by decide +kernel
theorem dXU_writeMemory_22 : decode cXU_writeMemory 22 = .ok (.getfield 29, 3) := by decide +kernel
theorem dXU_writeMemory_25 : decode cXU_writeMemory 25 = .ok (.iload_n 1, 1) := by decide +kernel
theorem dXU_writeMemory_26 : decode cXU_writeMemory 26 = .ok (.sipush 512, 3) := by decide +kernel
theorem dXU_writeMemory_29 : decode cXU_writeMemory 29 = .ok (.isub, 1) := by decide +kernel
theorem dXU_writeMemory_30 : decode cXU_writeMemory 30 = .ok (.iconst 1, 1) := by decide +kernel
theorem dXU_writeMemory_31 : decode cXU_writeMemory 31 = .ok (.ishr, 1) := by decide +kernel
theorem dXU_writeMemory_32 : decode cXU_writeMemory 32 = .ok (.iload_n 2, 1) := by decide +kernel
theorem dXU_writeMemory_33 : decode cXU_writeMemory 33 = .ok (.iastore, 1) := by decide +kernel
theorem dXU_writeMemory_34 : decode cXU_writeMemory 34 = .ok (.goto 44, 3) := by decide +kernel
theorem dXU_writeMemory_37 : decode cXU_writeMemory 37 = .ok (.iload_n 1, 1) := by decide +kernel
theorem dXU_writeMemory_38 : decode cXU_writeMemory 38 = .ok (.sipush 768, 3) := by decide +kernel
theorem dXU_writeMemory_41 : decode cXU_writeMemory 41 = .ok (.if_icmp .lt 37, 3) := by decide +kernel
theorem dXU_writeMemory_44 : decode cXU_writeMemory 44 = .ok (.iload_n 1, 1) := by decide +kernel
theorem dXU_writeMemory_45 : decode cXU_writeMemory 45 = .ok (.sipush 896, 3) := by decide +kernel
theorem dXU_writeMemory_48 : decode cXU_writeMemory 48 = .ok (.if_icmp .ge 30, 3) := by decide +kernel
theorem dXU_writeMemory_51 : decode cXU_writeMemory 51 = .ok (.aload_n 0, 1) := by decide +kernel
theorem dXU_writeMemory_52 : decode cXU_writeMemory 52 = .ok (.getfield 13, 3) := by decide +kernel
theorem dXU_writeMemory_55 : decode cXU_writeMemory 55 = .ok (.invokevirtual 32, 3) := by decide +kernel
theorem dXU_writeMemory_58 : decode cXU_writeMemory 58 = .ok (.ifCond .eq 20, 3) := by decide +kernel
theorem dXU_writeMemory_61 : decode cXU_writeMemory 61 = .ok (.aload_n 0, 1) := by decide +kernel
theorem dXU_writeMemory_62 : decode cXU_writeMemory 62 = .ok (.getfield 13, 3) := by decide +kernel
theorem dXU_writeMemory_65 : decode cXU_writeMemory 65 = .ok (.getfield 38, 3) := by decide +kernel
theorem dXU_writeMemory_68 : decode cXU_writeMemory 68 = .ok (.iload_n 1, 1) := by decide +kernel
theorem dXU_writeMemory_69 : decode cXU_writeMemory 69 = .ok (.sipush 768, 3) := by decide +kernel
theorem dXU_writeMemory_72 : decode cXU_writeMemory 72 = .ok (.isub, 1) := by decide +kernel
theorem dXU_writeMemory_73 : decode cXU_writeMemory 73 = .ok (.iload_n 2, 1) := by decide +kernel
theorem dXU_writeMemory_74 : decode cXU_writeMemory 74 = .ok (.bipush 8, 2) := by decide +kernel
theorem dXU_writeMemory_76 : decode cXU_writeMemory 76 = .ok (.ishr, 1) := by decide +kernel
theorem dXU_writeMemory_77 : decode cXU_writeMemory 77 = .ok (.iastore, 1) := by decide +kernel
theorem dXU_writeMemory_78 : decode cXU_writeMemory 78 = .ok (.return_, 1) := by decide +kernel
theorem dXU_readStatus_0 : decode cXU_readStatus 0 = .ok (.aload_n 0, 1) := by decide +kernel
theorem dXU_readStatus_1 : decode cXU_readStatus 1 = .ok (.getfield 17, 3) := by decide +kernel
theorem dXU_readStatus_4 : decode cXU_readStatus 4 = .ok (.iconst 0, 1) := by decide +kernel
theorem dXU_readStatus_5 : decode cXU_readStatus 5 = .ok (.putfield 92, 3) := by decide +kernel
theorem dXU_readStatus_8 : decode cXU_readStatus 8 = .ok (.aload_n 0, 1) := by decide +kernel
theorem dXU_readStatus_9 : decode cXU_readStatus 9 = .ok (.getfield 17, 3) := by decide +kernel
theorem dXU_readStatus_12 : decode cXU_readStatus 12 = .ok (.invokevirtual 95, 3) := by decide +kernel
theorem dXU_readStatus_15 : decode cXU_readStatus 15 = .ok (.ifCond .eq 7, 3) := by decide +kernel
theorem dXU_readStatus_18 : decode cXU_readStatus 18 = .ok (.iconst 2, 1) := by decide +kernel
theorem dXU_readStatus_19 : decode cXU_readStatus 19 = .ok (.goto 4, 3) := by decide +kernel
theorem dXU_readStatus_22 : decode cXU_readStatus 22 = .ok (.iconst 0, 1) := by decide +kernel
theorem dXU_readStatus_23 : decode cXU_readStatus 23 = .ok (.aload_n 0, 1) := by decide +kernel
theorem dXU_readStatus_24 : decode cXU_readStatus 24 = .ok (.getfield 25, 3) := by decide +kernel
theorem dXU_readStatus_27 : decode cXU_readStatus 27 = .ok (.getfield 48, 3) := by decide +kernel
theorem dXU_readStatus_30 : decode cXU_readStatus 30 = .ok (.bipush 8, 2) := by decide +kernel
theorem dXU_readStatus_32 : decode cXU_readStatus 32 = .ok (.if_icmp .lt 7, 3) := by decide +kernel
theorem dXU_readStatus_35 : decode cXU_readStatus 35 = .ok (.iconst 4, 1) := by decide +kernel
theorem dXU_readStatus_36 : decode cXU_readStatus 36 = .ok (.goto 4, 3) := by decide +kernel
theorem dXU_readStatus_39 : decode cXU_readStatus 39 = .ok (.iconst 0, 1) := by decide +kernel
theorem dXU_readStatus_40 : decode cXU_readStatus 40 = .ok (.iadd, 1) := by decide +kernel
theorem dXU_readStatus_41 : decode cXU_readStatus 41 = .ok (.aload_n 0, 1) := by decide +kernel
theorem dXU_readStatus_42 : decode cXU_readStatus 42 = .ok (.getfield 25, 3) := by decide +kernel
theorem dXU_readStatus_45 : decode cXU_readStatus 45 = .ok (.getfield 100, 3) := by decide +kernel
theorem dXU_readStatus_48 : decode cXU_readStatus 48 = .ok (.ifCond .eq 8, 3) := by decide +kernel
theorem dXU_readStatus_51 : decode cXU_readStatus 51 = .ok (.bipush 8, 2) := by decide +kernel
theorem dXU_readStatus_53 : decode cXU_readStatus 53 = .ok (.goto 4, 3) := by decide +kernel
theorem dXU_readStatus_56 : decode cXU_readStatus 56 = .ok (.iconst 0, 1) := by decide +kernel
theorem dXU_readStatus_57 : decode cXU_readStatus 57 = .ok (.iadd, 1) := by decide +kernel
theorem dXU_readStatus_58 : decode cXU_readStatus 58 = .ok (.aload_n 0, 1) := by decide +kernel
theorem dXU_readStatus_59 : decode cXU_readStatus 59 = .ok (.getfield 21, 3) := by decide +kernel
theorem dXU_readStatus_62 : decode cXU_readStatus 62 = .ok (.getfield 103, 3) := by decide +kernel
theorem dXU_readStatus_65 : decode cXU_readStatus 65 = .ok (.ifCond .eq 8, 3) := by decide +kernel
theorem dXU_readStatus_68 : decode cXU_readStatus 68 = .ok (.bipush 32, 2) := by decide +kernel
theorem dXU_readStatus_70 : decode cXU_readStatus 70 = .ok (.goto 4, 3) := by decide +kernel
theorem dXU_readStatus_73 : decode cXU_readStatus 73 = .ok (.iconst 0, 1) := by decide +kernel
theorem dXU_readStatus_74 : decode cXU_readStatus 74 = .ok (.iadd, 1) := by decide +kernel
theorem dXU_readStatus_75 : decode cXU_readStatus 75 = .ok (.aload_n 0, 1) := by decide +kernel
theorem dXU_readStatus_76 : decode cXU_readStatus 76 = .ok (.getfield 21, 3) := by decide +kernel
theorem dXU_readStatus_79 : decode cXU_readStatus 79 = .ok (.getfield 106, 3) := by decide +kernel
theorem dXU_readStatus_82 : decode cXU_readStatus 82 = .ok (.ifCond .eq 8, 3) := by decide +kernel
theorem dXU_readStatus_85 : decode cXU_readStatus 85 = .ok (.bipush 64, 2) := by decide +kernel
theorem dXU_readStatus_87 : decode cXU_readStatus 87 = .ok (.goto 4, 3) := by decide +kernel
theorem dXU_readStatus_90 : decode cXU_readStatus 90 = .ok (.iconst 0, 1) := by decide +kernel
theorem dXU_readStatus_91 : decode cXU_readStatus 91 = .ok (.iadd, 1) := by decide +kernel
theorem dXU_readStatus_92 : decode cXU_readStatus 92 = .ok (.istore_n 1, 1) := by decide +kernel
theorem dXU_readStatus_93 : decode cXU_readStatus 93 = .ok (.aload_n 0, 1) := by decide +kernel
theorem dXU_readStatus_94 : decode cXU_readStatus 94 = .ok (.getfield 21, 3) := by decide +kernel
theorem dXU_readStatus_97 : decode cXU_readStatus 97 = .ok (.iconst 0, 1) := by decide +kernel
theorem dXU_readStatus_98 : decode cXU_readStatus 98 = .ok (.putfield 103, 3) := by decide +kernel
theorem dXU_readStatus_101 : decode cXU_readStatus 101 = .ok (.aload_n 0, 1) := by decide +kernel
theorem dXU_readStatus_102 : decode cXU_readStatus 102 = .ok (.getfield 21, 3) := by decide +kernel
theorem dXU_readStatus_105 : decode cXU_readStatus 105 = .ok (.iconst 0, 1) := by decide +kernel
theorem dXU_readStatus_106 : decode cXU_readStatus 106 = .ok (.putfield 106, 3) := by decide +kernel
theorem dXU_readStatus_109 : decode cXU_readStatus 109 = .ok (.iload_n 1, 1) := by decide +kernel
theorem dXU_readStatus_110 : decode cXU_readStatus 110 = .ok (.ireturn, 1) := by decide +kernel
theorem dXU_readPad_0 : decode cXU_readPad 0 = .ok (.aload_n 0, 1) := by decide +kernel
theorem dXU_readPad_1 : decode cXU_readPad 1 = .ok (.getfield 79, 3) := by decide +kernel
theorem dXU_readPad_4 : decode cXU_readPad 4 = .ok (.ifCond .eq 16, 3) := by decide +kernel
theorem dXU_readPad_7 : decode cXU_readPad 7 = .ok (.aload_n 0, 1) := by decide +kernel
theorem dXU_readPad_8 : decode cXU_readPad 8 = .ok (.getfield 79, 3) := by decide +kernel
theorem dXU_readPad_11 : decode cXU_readPad 11 = .ok (.aload_n 0, 1) := by decide +kernel
theorem dXU_readPad_12 : decode cXU_readPad 12 = .ok (.getfield 109, 3) := by decide +kernel
theorem dXU_readPad_15 : decode cXU_readPad 15 = .ok (.bipush 63, 2) := by decide +kernel
theorem dXU_readPad_17 : decode cXU_readPad 17 = .ok (.iand, 1) := by decide +kernel
theorem dXU_readPad_18 : decode cXU_readPad 18 = .ok (.ior, 1) := by decide +kernel
theorem dXU_readPad_19 : decode cXU_readPad 19 = .ok (.ireturn, 1) := by decide +kernel
theorem dXU_readPad_20 : decode cXU_readPad 20 = .ok (.aload_n 0, 1) := by decide +kernel
theorem dXU_readPad_21 : decode cXU_readPad 21 = .ok (.getfield 109, 3) := by decide +kernel
theorem dXU_readPad_24 : decode cXU_readPad 24 = .ok (.iconst 2, 1) := by decide +kernel
theorem dXU_readPad_25 : decode cXU_readPad 25 = .ok (.ishr, 1) := by decide +kernel
theorem dXU_readPad_26 : decode cXU_readPad 26 = .ok (.bipush 48, 2) := by decide +kernel
theorem dXU_readPad_28 : decode cXU_readPad 28 = .ok (.iand, 1) := by decide +kernel
theorem dXU_readPad_29 : decode cXU_readPad 29 = .ok (.aload_n 0, 1) := by decide +kernel
theorem dXU_readPad_30 : decode cXU_readPad 30 = .ok (.getfield 109, 3) := by decide +kernel
theorem dXU_readPad_33 : decode cXU_readPad 33 = .ok (.iconst 3, 1) := by decide +kernel
theorem dXU_readPad_34 : decode cXU_readPad 34 = .ok (.iand, 1) := by decide +kernel
theorem dXU_readPad_35 : decode cXU_readPad 35 = .ok (.ior, 1) := by decide +kernel
theorem dXU_readPad_36 : decode cXU_readPad 36 = .ok (.ireturn, 1) := by decide +kernel
end
section
theorem dXR_init_0 : decode cXR_init 0 = .ok (.aload_n 0, 1) := by decide +kernel
theorem dXR_init_1 : decode cXR_init 1 = .ok (.invokespecial 1, 3) := by decide +kernel
theorem dXR_init_4 : decode cXR_init 4 = .ok (.aload_n 0, 1) := by decide +kernel
theorem dXR_init_5 : decode cXR_init 5 = .ok (.sipush 512, 3) := by decide +kernel
theorem dXR_init_8 : decode cXR_init 8 = .ok (.newarray .int, 2) := by decide +kernel
theorem dXR_init_10 : decode cXR_init 10 = .ok (.putfield 7, 3) := by decide +kernel
theorem dXR_init_13 : decode cXR_init 13 = .ok (.aload_n 0, 1) := by decide +kernel
theorem dXR_init_14 : decode cXR_init 14 = .ok (.sipush 128, 3) := by decide +kernel
theorem dXR_init_17 : decode cXR_init 17 = .ok (.newarray .int, 2) := by decide +kernel
theorem dXR_init_19 : decode cXR_init 19 = .ok (.putfield 13, 3) := by decide +kernel
theorem dXR_init_22 : decode cXR_init 22 = .ok (.aload_n 0, 1) := by decide +kernel
theorem dXR_init_23 : decode cXR_init 23 = .ok (.bipush 8, 2) := by decide +kernel
theorem dXR_init_25 : decode cXR_init 25 = .ok (.newarray .int, 2) := by decide +kernel
theorem dXR_init_27 : decode cXR_init 27 = .ok (.putfield 16, 3) := by decide +kernel
theorem dXR_init_30 : decode cXR_init 30 = .ok (.aload_n 0, 1) := by decide +kernel
theorem dXR_init_31 : decode cXR_init 31 = .ok (.sipush 128, 3) := by decide +kernel
theorem dXR_init_34 : decode cXR_init 34 = .ok (.newarray .int, 2) := by decide +kernel
theorem dXR_init_36 : decode cXR_init 36 = .ok (.putfield 19, 3) := by decide +kernel
theorem dXR_init_39 : decode cXR_init 39 = .ok (.aload_n 0, 1) := by decide +kernel
theorem dXR_init_40 : decode cXR_init 40 = .ok (.iconst 1, 1) := by decide +kernel
theorem dXR_init_41 : decode cXR_init 41 = .ok (.putfield 22, 3) := by decide +kernel
theorem dXR_init_44 : decode cXR_init 44 = .ok (.aload_n 0, 1) := by decide +kernel
theorem dXR_init_45 : decode cXR_init 45 = .ok (.sipush 1024, 3) := by decide +kernel
theorem dXR_init_48 : decode cXR_init 48 = .ok (.newarray .int, 2) := by decide +kernel
theorem dXR_init_50 : decode cXR_init 50 = .ok (.putfield 26, 3) := by decide +kernel
theorem dXR_init_53 : decode cXR_init 53 = .ok (.aload_n 0, 1) := by decide +kernel
theorem dXR_init_54 : decode cXR_init 54 = .ok (.bipush 16, 2) := by decide +kernel
theorem dXR_init_56 : decode cXR_init 56 = .ok (.newarray .int, 2) := by decide +kernel
theorem dXR_init_58 : decode cXR_init 58 = .ok (.putfield 29, 3) := by decide +kernel
theorem dXR_init_61 : decode cXR_init 61 = .ok (.aload_n 0, 1) := by decide +kernel
theorem dXR_init_62 : decode cXR_init 62 = .ok (.iconst 2, 1) := by decide +kernel
theorem dXR_init_63 : decode cXR_init 63 = .ok (.newarray .int, 2) := by decide +kernel
theorem dXR_init_65 : decode cXR_init 65 = .ok (.putfield 32, 3) := by decide +kernel
theorem dXR_init_68 : decode cXR_init 68 = .ok (.aload_n 0, 1) := by decide +kernel
theorem dXR_init_69 : decode cXR_init 69 = .ok (.bipush 16, 2) := by decide +kernel
theorem dXR_init_71 : decode cXR_init 71 = .ok (.newarray .int, 2) := by decide +kernel
theorem dXR_init_73 : decode cXR_init 73 = .ok (.putfield 35, 3) := by decide +kernel
theorem dXR_init_76 : decode cXR_init 76 = .ok (.aload_n 0, 1) := by decide +kernel
theorem dXR_init_77 : decode cXR_init 77 = .ok (.sipush 128, 3) := by decide +kernel
theorem dXR_init_80 : decode cXR_init 80 = .ok (.newarray .int, 2) := by decide +kernel
theorem dXR_init_82 : decode cXR_init 82 = .ok (.putfield 38, 3) := by decide +kernel
theorem dXR_init_85 : decode cXR_init 85 = .ok (.aload_n 0, 1) := by decide +kernel
theorem dXR_init_86 : decode cXR_init 86 = .ok (.iconst 3, 1) := by decide +kernel
theorem dXR_init_87 : decode cXR_init 87 = .ok (.newarray .int, 2) := by decide +kernel
theorem dXR_init_89 : decode cXR_init 89 = .ok (.putfield 41, 3) := by decide +kernel
theorem dXR_init_92 : decode cXR_init 92 = .ok (.return_, 1) := by decide +kernel
theorem dXR_isOut_0 : decode cXR_isOut 0 = .ok (.aload_n 0, 1) := by decide +kernel
theorem dXR_isOut_1 : decode cXR_isOut 1 = .ok (.getfield 44, 3) := by decide +kernel
theorem dXR_isOut_4 : decode cXR_isOut 4 = .ok (.ifCond .ne 10, 3) := by decide +kernel
theorem dXR_isOut_7 : decode cXR_isOut 7 = .ok (.aload_n 0, 1) := by decide +kernel
theorem dXR_isOut_8 : decode cXR_isOut 8 = .ok (.getfield 22, 3) := by decide +kernel
theorem dXR_isOut_11 : decode cXR_isOut 11 = .ok (.ifCond .eq 7, 3) := by decide +kernel
theorem dXR_isOut_14 : decode cXR_isOut 14 = .ok (.iconst 1, 1) := by decide +kernel
theorem dXR_isOut_15 : decode cXR_isOut 15 = .ok (.goto 4, 3) := by decide +kernel
theorem dXR_isOut_18 : decode cXR_isOut 18 = .ok (.iconst 0, 1) := by decide +kernel
theorem dXR_isOut_19 : decode cXR_isOut 19 = .ok (.ireturn, 1) := by decide +kernel
theorem dXR_quiet_0 : decode cXR_quiet 0 = .ok (.iload_n 1, 1) := by decide +kernel
theorem dXR_quiet_1 : decode cXR_quiet 1 = .ok (.ifCond .lt 17, 3) := by decide +kernel
theorem dXR_quiet_4 : decode cXR_quiet 4 = .ok (.iload_n 1, 1) := by decide +kernel
theorem dXR_quiet_5 : decode cXR_quiet 5 = .ok (.sipush 895, 3) := by decide +kernel
theorem dXR_quiet_8 : decode cXR_quiet 8 = .ok (.if_icmp .gt 10, 3) := by decide +kernel
theorem dXR_quiet_11 : decode cXR_quiet 11 = .ok (.iload_n 1, 1) := by decide +kernel
theorem dXR_quiet_12 : decode cXR_quiet 12 = .ok (.iconst 2, 1) := by decide +kernel
theorem dXR_quiet_13 : decode cXR_quiet 13 = .ok (.irem, 1) := by decide +kernel
theorem dXR_quiet_14 : decode cXR_quiet 14 = .ok (.iconst 1, 1) := by decide +kernel
theorem dXR_quiet_15 : decode cXR_quiet 15 = .ok (.if_icmp .ne 5, 3) := by decide +kernel
theorem dXR_quiet_18 : decode cXR_quiet 18 = .ok (.iconst 0, 1) := by decide +kernel
theorem dXR_quiet_19 : decode cXR_quiet 19 = .ok (.ireturn, 1) := by decide +kernel
theorem dXR_quiet_20 : decode cXR_quiet 20 = .ok (.iload_n 1, 1) := by decide +kernel
theorem dXR_quiet_21 : decode cXR_quiet 21 = .ok (.sipush 512, 3) := by decide +kernel
theorem dXR_quiet_24 : decode cXR_quiet 24 = .ok (.if_icmp .ge 23, 3) := by decide +kernel
theorem dXR_quiet_27 : decode cXR_quiet 27 = .ok (.sipush 256, 3) := by decide +kernel
theorem dXR_quiet_30 : decode cXR_quiet 30 = .ok (.aload_n 0, 1) := by decide +kernel
theorem dXR_quiet_31 : decode cXR_quiet 31 = .ok (.getfield 7, 3) := by decide +kernel
theorem dXR_quiet_34 : decode cXR_quiet 34 = .ok (.iload_n 1, 1) := by decide +kernel
theorem dXR_quiet_35 : decode cXR_quiet 35 = .ok (.iaload, 1) := by decide +kernel
theorem dXR_quiet_36 : decode cXR_quiet 36 = .ok (.imul, 1) := by decide +kernel
theorem dXR_quiet_37 : decode cXR_quiet 37 = .ok (.aload_n 0, 1) := by decide +kernel
theorem dXR_quiet_38 : decode cXR_quiet 38 = .ok (.getfield 7, 3) := by decide +kernel
theorem dXR_quiet_41 : decode cXR_quiet 41 = .ok (.iload_n 1, 1) := by decide +kernel
theorem dXR_quiet_42 : decode cXR_quiet 42 = .ok (.iconst 1, 1) := by decide +kernel
theorem dXR_quiet_43 : decode cXR_quiet 43 = .ok (.iadd, 1) := by decide +kernel
theorem dXR_quiet_44 : decode cXR_quiet 44 = .ok (.iaload, 1) := by decide +kernel
theorem dXR_quiet_45 : decode cXR_quiet 45 = .ok (.iadd, 1) := by decide +kernel
theorem dXR_quiet_46 : decode cXR_quiet 46 = .ok (.ireturn, 1) := by decide +kernel
theorem dXR_quiet_47 : decode cXR_quiet 47 = .ok (.iload_n 1, 1) := by decide +kernel
theorem dXR_quiet_48 : decode cXR_quiet 48 = .ok (.sipush 640, 3) := by decide +kernel
theorem dXR_quiet_51 : decode cXR_quiet 51 = .ok (.if_icmp .ge 29, 3) := by decide +kernel
theorem dXR_quiet_54 : decode cXR_quiet 54 = .ok (.sipush 256, 3) := by decide +kernel
theorem dXR_quiet_57 : decode cXR_quiet 57 = .ok (.aload_n 0, 1) := by decide +kernel
theorem dXR_quiet_58 : decode cXR_quiet 58 = .ok (.getfield 13, 3) := by decide +kernel
theorem dXR_quiet_61 : decode cXR_quiet 61 = .ok (.iload_n 1, 1) := by decide +kernel
theorem dXR_quiet_62 : decode cXR_quiet 62 = .ok (.sipush 512, 3) := by decide +kernel
theorem dXR_quiet_65 : decode cXR_quiet 65 = .ok (.isub, 1) := by decide +kernel
theorem dXR_quiet_66 : decode cXR_quiet 66 = .ok (.iaload, 1) := by decide +kernel
theorem dXR_quiet_67 : decode cXR_quiet 67 = .ok (.imul, 1) := by decide +kernel
theorem dXR_quiet_68 : decode cXR_quiet 68 = .ok (.aload_n 0, 1) := by decide +kernel
theorem dXR_quiet_69 : decode cXR_quiet 69 = .ok (.getfield 13, 3) := by decide +kernel
theorem dXR_quiet_72 : decode cXR_quiet 72 = .ok (.iload_n 1, 1) := by decide +kernel
theorem dXR_quiet_73 : decode cXR_quiet 73 = .ok (.sipush 511, 3) := by decide +kernel
theorem dXR_quiet_76 : decode cXR_quiet 76 = .ok (.isub, 1) := by decide +kernel
theorem dXR_quiet_77 : decode cXR_quiet 77 = .ok (.iaload, 1) := by decide +kernel
theorem dXR_quiet_78 : decode cXR_quiet 78 = .ok (.iadd, 1) := by decide +kernel
theorem dXR_quiet_79 : decode cXR_quiet 79 = .ok (.ireturn, 1) := by decide +kernel
theorem dXR_quiet_80 : decode cXR_quiet 80 = .ok (.iload_n 1, 1) := by decide +kernel
theorem dXR_quiet_81 : decode cXR_quiet 81 = .ok (.sipush 768, 3) := by decide +kernel
theorem dXR_quiet_84 : decode cXR_quiet 84 = .ok (.if_icmp .lt 10, 3) := by decide +kernel
theorem dXR_quiet_87 : decode cXR_quiet 87 = .ok (.aload_n 0, 1) := by decide +kernel
theorem dXR_quiet_88 : decode cXR_quiet 88 = .ok (.invokevirtual 47, 3) := by decide +kernel
theorem dXR_quiet_91 : decode cXR_quiet 91 = .ok (.ifCond .ne 7, 3) := by decide +kernel
theorem dXR_quiet_94 : decode cXR_quiet 94 = .ok (.iconst 0, 1) := by decide +kernel
theorem dXR_quiet_95 : decode cXR_quiet 95 = .ok (.goto 17, 3) := by decide +kernel
theorem dXR_quiet_98 : decode cXR_quiet 98 = .ok (.sipush 257, 3) := by decide +kernel
theorem dXR_quiet_101 : decode cXR_quiet 101 = .ok (.aload_n 0, 1) := by decide +kernel
theorem dXR_quiet_102 : decode cXR_quiet 102 = .ok (.getfield 19, 3) := by decide +kernel
theorem dXR_quiet_105 : decode cXR_quiet 105 = .ok (.iload_n 1, 1) := by decide +kernel
theorem dXR_quiet_106 : decode cXR_quiet 106 = .ok (.sipush 768, 3) := by decide +kernel
theorem dXR_quiet_109 : decode cXR_quiet 109 = .ok (.isub, 1) := by decide +kernel
theorem dXR_quiet_110 : decode cXR_quiet 110 = .ok (.iaload, 1) := by decide +kernel
theorem dXR_quiet_111 : decode cXR_quiet 111 = .ok (.imul, 1) := by decide +kernel
theorem dXR_quiet_112 : decode cXR_quiet 112 = .ok (.ireturn, 1) := by decide +kernel
theorem dXR_status_0 : decode cXR_status 0 = .ok (.aload_n 0, 1) := by decide +kernel
theorem dXR_status_1 : decode cXR_status 1 = .ok (.getfield 51, 3) := by decide +kernel
theorem dXR_status_4 : decode cXR_status 4 = .ok (.ifCond .le 7, 3) := by decide +kernel
theorem dXR_status_7 : decode cXR_status 7 = .ok (.iconst 2, 1) := by decide +kernel
theorem dXR_status_8 : decode cXR_status 8 = .ok (.goto 4, 3) := by decide +kernel
theorem dXR_status_11 : decode cXR_status 11 = .ok (.iconst 0, 1) := by decide +kernel
theorem dXR_status_12 : decode cXR_status 12 = .ok (.aload_n 0, 1) := by decide +kernel
theorem dXR_status_13 : decode cXR_status 13 = .ok (.getfield 55, 3) := by decide +kernel
theorem dXR_status_16 : decode cXR_status 16 = .ok (.bipush 8, 2) := by decide +kernel
theorem dXR_status_18 : decode cXR_status 18 = .ok (.if_icmp .lt 7, 3) := by decide +kernel
theorem dXR_status_21 : decode cXR_status 21 = .ok (.iconst 4, 1) := by decide +kernel
theorem dXR_status_22 : decode cXR_status 22 = .ok (.goto 4, 3) := by decide +kernel
theorem dXR_status_25 : decode cXR_status 25 = .ok (.iconst 0, 1) := by decide +kernel
theorem dXR_status_26 : decode cXR_status 26 = .ok (.iadd, 1) := by decide +kernel
theorem dXR_status_27 : decode cXR_status 27 = .ok (.aload_n 0, 1) := by decide +kernel
theorem dXR_status_28 : decode cXR_status 28 = .ok (.getfield 58, 3) := by decide +kernel
theorem dXR_status_31 : decode cXR_status 31 = .ok (.ifCond .eq 8, 3) := by decide +kernel
theorem dXR_status_34 : decode cXR_status 34 = .ok (.bipush 8, 2) := by decide +kernel
theorem dXR_status_36 : decode cXR_status 36 = .ok (.goto 4, 3) := by decide +kernel
theorem dXR_status_39 : decode cXR_status 39 = .ok (.iconst 0, 1) := by decide +kernel
theorem dXR_status_40 : decode cXR_status 40 = .ok (.iadd, 1) := by decide +kernel
theorem dXR_status_41 : decode cXR_status 41 = .ok (.aload_n 0, 1) := by decide +kernel
theorem dXR_status_42 : decode cXR_status 42 = .ok (.getfield 61, 3) := by decide +kernel
theorem dXR_status_45 : decode cXR_status 45 = .ok (.ifCond .eq 8, 3) := by decide +kernel
theorem dXR_status_48 : decode cXR_status 48 = .ok (.bipush 32, 2) := by decide +kernel
theorem dXR_status_50 : decode cXR_status 50 = .ok (.goto 4, 3) := by decide +kernel
theorem dXR_status_53 : decode cXR_status 53 = .ok (.iconst 0, 1) := by decide +kernel
theorem dXR_status_54 : decode cXR_status 54 = .ok (.iadd, 1) := by decide +kernel
theorem dXR_status_55 : decode cXR_status 55 = .ok (.aload_n 0, 1) := by decide +kernel
theorem dXR_status_56 : decode cXR_status 56 = .ok (.getfield 64, 3) := by decide +kernel
theorem dXR_status_59 : decode cXR_status 59 = .ok (.ifCond .eq 8, 3) := by decide +kernel
theorem dXR_status_62 : decode cXR_status 62 = .ok (.bipush 64, 2) := by decide +kernel
theorem dXR_status_64 : decode cXR_status 64 = .ok (.goto 4, 3) := by decide +kernel
theorem dXR_status_67 : decode cXR_status 67 = .ok (.iconst 0, 1) := by decide +kernel
theorem dXR_status_68 : decode cXR_status 68 = .ok (.iadd, 1) := by decide +kernel
theorem dXR_status_69 : decode cXR_status 69 = .ok (.istore_n 1, 1) := by decide +kernel
theorem dXR_status_70 : decode cXR_status 70 = .ok (.aload_n 0, 1) := by decide +kernel
theorem dXR_status_71 : decode cXR_status 71 = .ok (.iconst 0, 1) := by decide +kernel
theorem dXR_status_72 : decode cXR_status 72 = .ok (.putfield 61, 3) := by decide +kernel
theorem dXR_status_75 : decode cXR_status 75 = .ok (.aload_n 0, 1) := by decide +kernel
theorem dXR_status_76 : decode cXR_status 76 = .ok (.iconst 0, 1) := by decide +kernel
theorem dXR_status_77 : decode cXR_status 77 = .ok (.putfield 64, 3) := by decide +kernel
theorem dXR_status_80 : decode cXR_status 80 = .ok (.aload_n 0, 1) := by decide +kernel
theorem dXR_status_81 : decode cXR_status 81 = .ok (.iconst 0, 1) := by decide +kernel
theorem dXR_status_82 : decode cXR_status 82 = .ok (.putfield 67, 3) := by decide +kernel
theorem dXR_status_85 : decode cXR_status 85 = .ok (.iload_n 1, 1) := by decide +kernel
theorem dXR_status_86 : decode cXR_status 86 = .ok (.ireturn, 1) := by decide +kernel
theorem dXR_padWord_0 : decode cXR_padWord 0 = .ok (.aload_n 0, 1) := by decide +kernel
theorem dXR_padWord_1 : decode cXR_padWord 1 = .ok (.getfield 70, 3) := by decide +kernel
theorem dXR_padWord_4 : decode cXR_padWord 4 = .ok (.istore_n 1, 1) := by decide +kernel
theorem dXR_padWord_5 : decode cXR_padWord 5 = .ok (.aload_n 0, 1) := by decide +kernel
theorem dXR_padWord_6 : decode cXR_padWord 6 = .ok (.getfield 73, 3) := by decide +kernel
theorem dXR_padWord_9 : decode cXR_padWord 9 = .ok (.iconst 1, 1) := by decide +kernel
theorem dXR_padWord_10 : decode cXR_padWord 10 = .ok (.if_icmp .ne 13, 3) := by decide +kernel
theorem dXR_padWord_13 : decode cXR_padWord 13 = .ok (.bipush 64, 2) := by decide +kernel
theorem dXR_padWord_15 : decode cXR_padWord 15 = .ok (.iload_n 1, 1) := by decide +kernel
theorem dXR_padWord_16 : decode cXR_padWord 16 = .ok (.bipush 63, 2) := by decide +kernel
theorem dXR_padWord_18 : decode cXR_padWord 18 = .ok (.iand, 1) := by decide +kernel
theorem dXR_padWord_19 : decode cXR_padWord 19 = .ok (.iadd, 1) := by decide +kernel
theorem dXR_padWord_20 : decode cXR_padWord 20 = .ok (.goto 26, 3) := by decide +kernel
theorem dXR_padWord_23 : decode cXR_padWord 23 = .ok (.iload_n 1, 1) := by decide +kernel
theorem dXR_padWord_24 : decode cXR_padWord 24 = .ok (.bipush 7, 2) := by decide +kernel
theorem dXR_padWord_26 : decode cXR_padWord 26 = .ok (.ishr, 1) := by decide +kernel
theorem dXR_padWord_27 : decode cXR_padWord 27 = .ok (.iconst 1, 1) := by decide +kernel
theorem dXR_padWord_28 : decode cXR_padWord 28 = .ok (.iand, 1) := by decide +kernel
theorem dXR_padWord_29 : decode cXR_padWord 29 = .ok (.bipush 32, 2) := by decide +kernel
theorem dXR_padWord_31 : decode cXR_padWord 31 = .ok (.imul, 1) := by decide +kernel
theorem dXR_padWord_32 : decode cXR_padWord 32 = .ok (.iload_n 1, 1) := by decide +kernel
theorem dXR_padWord_33 : decode cXR_padWord 33 = .ok (.bipush 6, 2) := by decide +kernel
theorem dXR_padWord_35 : decode cXR_padWord 35 = .ok (.ishr, 1) := by decide +kernel
theorem dXR_padWord_36 : decode cXR_padWord 36 = .ok (.iconst 1, 1) := by decide +kernel
theorem dXR_padWord_37 : decode cXR_padWord 37 = .ok (.iand, 1) := by decide +kernel
theorem dXR_padWord_38 : decode cXR_padWord 38 = .ok (.bipush 16, 2) := by decide +kernel
theorem dXR_padWord_40 : decode cXR_padWord 40 = .ok (.imul, 1) := by decide +kernel
theorem dXR_padWord_41 : decode cXR_padWord 41 = .ok (.iadd, 1) := by decide +kernel
theorem dXR_padWord_42 : decode cXR_padWord 42 = .ok (.iload_n 1, 1) := by decide +kernel
theorem dXR_padWord_43 : decode cXR_padWord 43 = .ok (.iconst 3, 1) := by decide +kernel
theorem dXR_padWord_44 : decode cXR_padWord 44 = .ok (.iand, 1) := by decide +kernel
theorem dXR_padWord_45 : decode cXR_padWord 45 = .ok (.iadd, 1) := by decide +kernel
theorem dXR_padWord_46 : decode cXR_padWord 46 = .ok (.ireturn, 1) := by decide +kernel
theorem dXR_read_0 : decode cXR_read 0 = .ok (.iload_n 1, 1) := by decide +kernel
theorem dXR_read_1 : decode cXR_read 1 = .ok (.sipush 1024, 3) := by decide +kernel
theorem dXR_read_4 : decode cXR_read 4 = .ok (.if_icmp .ge 9, 3) := by decide +kernel
theorem dXR_read_7 : decode cXR_read 7 = .ok (.aload_n 0, 1) := by decide +kernel
theorem dXR_read_8 : decode cXR_read 8 = .ok (.iload_n 1, 1) := by decide +kernel
theorem dXR_read_9 : decode cXR_read 9 = .ok (.invokevirtual 76, 3) := by decide +kernel
theorem dXR_read_12 : decode cXR_read 12 = .ok (.ireturn, 1) := by decide +kernel
theorem dXR_read_13 : decode cXR_read 13 = .ok (.iload_n 1, 1) := by decide +kernel
theorem dXR_read_14 : decode cXR_read 14 = .ok (.lookupswitch 94 #[(1024, 50), (1028, 55), (1032, 60), (1040, 74), (1048, 89)], 50) := by decide +kernel
theorem dXR_read_64 : decode cXR_read 64 = .ok (.aload_n 0, 1) := by decide +kernel
theorem dXR_read_65 : decode cXR_read 65 = .ok (.invokevirtual 80, 3) := by decide +kernel
theorem dXR_read_68 : decode cXR_read 68 = .ok (.ireturn, 1) := by decide +kernel
theorem dXR_read_69 : decode cXR_read 69 = .ok (.aload_n 0, 1) := by decide +kernel
theorem dXR_read_70 : decode cXR_read 70 = .ok (.invokevirtual 84, 3) := by decide +kernel
theorem dXR_read_73 : decode cXR_read 73 = .ok (.ireturn, 1) := by decide +kernel
theorem dXR_read_74 : decode cXR_read 74 = .ok (.sipush 256, 3) := by decide +kernel
theorem dXR_read_77 : decode cXR_read 77 = .ok (.aload_n 0, 1) := by decide +kernel
theorem dXR_read_78 : decode cXR_read 78 = .ok (.getfield 55, 3) := by decide +kernel
theorem dXR_read_81 : decode cXR_read 81 = .ok (.imul, 1) := by decide +kernel
theorem dXR_read_82 : decode cXR_read 82 = .ok (.aload_n 0, 1) := by decide +kernel
theorem dXR_read_83 : decode cXR_read 83 = .ok (.getfield 87, 3) := by decide +kernel
theorem dXR_read_86 : decode cXR_read 86 = .ok (.iadd, 1) := by decide +kernel
theorem dXR_read_87 : decode cXR_read 87 = .ok (.ireturn, 1) := by decide +kernel
theorem dXR_read_88 : decode cXR_read 88 = .ok (.aload_n 0, 1) := by decide +kernel
theorem dXR_read_89 : decode cXR_read 89 = .ok (.getfield 44, 3) := by decide +kernel
theorem dXR_read_92 : decode cXR_read 92 = .ok (.ifCond .eq 7, 3) := by decide +kernel
theorem dXR_read_95 : decode cXR_read 95 = .ok (.iconst 0, 1) := by decide +kernel
theorem dXR_read_96 : decode cXR_read 96 = .ok (.goto 6, 3) := by decide +kernel
theorem dXR_read_99 : decode cXR_read 99 = .ok (.sipush 256, 3) := by decide +kernel
theorem dXR_read_102 : decode cXR_read 102 = .ok (.ireturn, 1) := by decide +kernel
theorem dXR_read_103 : decode cXR_read 103 = .ok (.aload_n 0, 1) := by decide +kernel
theorem dXR_read_104 : decode cXR_read 104 = .ok (.invokevirtual 90, 3) := by decide +kernel
theorem dXR_read_107 : decode cXR_read 107 = .ok (.ireturn, 1) := by decide +kernel
theorem dXR_read_108 : decode cXR_read 108 = .ok (.iconst 0, 1) := by decide +kernel
theorem dXR_read_109 : decode cXR_read 109 = .ok (.ireturn, 1) := by decide +kernel
theorem dXR_write_0 : decode cXR_write 0 = .ok (.iload_n 1, 1) := by decide +kernel
theorem dXR_write_1 : decode cXR_write 1 = .ok (.iconst 2, 1) := by decide +kernel
theorem dXR_write_2 : decode cXR_write 2 = .ok (.irem, 1) := by decide +kernel
theorem dXR_write_3 : decode cXR_write 3 = .ok (.iconst 1, 1) := by decide +kernel
theorem dXR_write_4 : decode cXR_write 4 = .ok (.if_icmp .ne 4, 3) := by decide +kernel
theorem dXR_write_7 : decode cXR_write 7 = .ok (.return_, 1) := by decide +kernel
theorem dXR_write_8 : decode cXR_write 8 = .ok (.iload_n 1, 1) := by decide +kernel
theorem dXR_write_9 : decode cXR_write 9 = .ok (.sipush 512, 3) := by decide +kernel
theorem dXR_write_12 : decode cXR_write 12 = .ok (.if_icmp .lt 42, 3) := by decide +kernel
theorem dXR_write_15 : decode cXR_write 15 = .ok (.iload_n 1, 1) := by decide +kernel
theorem dXR_write_16 : decode cXR_write 16 = .ok (.sipush 640, 3) := by decide +kernel
theorem dXR_write_19 : decode cXR_write 19 = .ok (.if_icmp .ge 35, 3) := by decide +kernel
theorem dXR_write_22 : decode cXR_write 22 = .ok (.aload_n 0, 1) := by decide +kernel
theorem dXR_write_23 : decode cXR_write 23 = .ok (.getfield 13, 3) := by decide +kernel
theorem dXR_write_26 : decode cXR_write 26 = .ok (.iload_n 1, 1) := by decide +kernel
theorem dXR_write_27 : decode cXR_write 27 = .ok (.sipush 512, 3) := by decide +kernel
theorem dXR_write_30 : decode cXR_write 30 = .ok (.isub, 1) := by decide +kernel
theorem dXR_write_31 : decode cXR_write 31 = .ok (.iload_n 2, 1) := by decide +kernel
theorem dXR_write_32 : decode cXR_write 32 = .ok (.bipush 8, 2) := by decide +kernel
theorem dXR_write_34 : decode cXR_write 34 = .ok (.ishr, 1) := by decide +kernel
theorem dXR_write_35 : decode cXR_write 35 = .ok (.iastore, 1) := by decide +kernel
theorem dXR_write_36 : decode cXR_write 36 = .ok (.aload_n 0, 1) := by decide +kernel
theorem dXR_write_37 : decode cXR_write 37 = .ok (.getfield 13, 3) := by decide +kernel
theorem dXR_write_40 : decode cXR_write 40 = .ok (.iload_n 1, 1) := by decide +kernel
theorem dXR_write_41 : decode cXR_write 41 = .ok (.sipush 511, 3) := by decide +kernel
theorem dXR_write_44 : decode cXR_write 44 = .ok (.isub, 1) := by decide +kernel
theorem dXR_write_45 : decode cXR_write 45 = .ok (.iload_n 2, 1) := by decide +kernel
theorem dXR_write_46 : decode cXR_write 46 = .ok (.sipush 255, 3) := by decide +kernel
theorem dXR_write_49 : decode cXR_write 49 = .ok (.iand, 1) := by decide +kernel
theorem dXR_write_50 : decode cXR_write 50 = .ok (.iastore, 1) := by decide +kernel
theorem dXR_write_51 : decode cXR_write 51 = .ok (.goto 145, 3) := by decide +kernel
theorem dXR_write_54 : decode cXR_write 54 = .ok (.iload_n 1, 1) := by decide +kernel
theorem dXR_write_55 : decode cXR_write 55 = .ok (.sipush 768, 3) := by decide +kernel
theorem dXR_write_58 : decode cXR_write 58 = .ok (.if_icmp .lt 34, 3) := by decide +kernel
theorem dXR_write_61 : decode cXR_write 61 = .ok (.iload_n 1, 1) := by decide +kernel
theorem dXR_write_62 : decode cXR_write 62 = .ok (.sipush 896, 3) := by decide +kernel
theorem dXR_write_65 : decode cXR_write 65 = .ok (.if_icmp .ge 27, 3) := by decide +kernel
theorem dXR_write_68 : decode cXR_write 68 = .ok (.aload_n 0, 1) := by decide +kernel
theorem dXR_write_69 : decode cXR_write 69 = .ok (.invokevirtual 47, 3) := by decide +kernel
theorem dXR_write_72 : decode cXR_write 72 = .ok (.ifCond .eq 20, 3) := by decide +kernel
theorem dXR_write_75 : decode cXR_write 75 = .ok (.aload_n 0, 1) := by decide +kernel
theorem dXR_write_76 : decode cXR_write 76 = .ok (.getfield 19, 3) := by decide +kernel
theorem dXR_write_79 : decode cXR_write 79 = .ok (.iload_n 1, 1) := by decide +kernel
theorem dXR_write_80 : decode cXR_write 80 = .ok (.sipush 768, 3) := by decide +kernel
theorem dXR_write_83 : decode cXR_write 83 = .ok (.isub, 1) := by decide +kernel
theorem dXR_write_84 : decode cXR_write 84 = .ok (.iload_n 2, 1) := by decide +kernel
theorem dXR_write_85 : decode cXR_write 85 = .ok (.bipush 8, 2) := by decide +kernel
theorem dXR_write_87 : decode cXR_write 87 = .ok (.ishr, 1) := by decide +kernel
theorem dXR_write_88 : decode cXR_write 88 = .ok (.iastore, 1) := by decide +kernel
theorem dXR_write_89 : decode cXR_write 89 = .ok (.goto 107, 3) := by decide +kernel
theorem dXR_write_92 : decode cXR_write 92 = .ok (.iload_n 1, 1) := by decide +kernel
theorem dXR_write_93 : decode cXR_write 93 = .ok (.sipush 1024, 3) := by decide +kernel
theorem dXR_write_96 : decode cXR_write 96 = .ok (.if_icmp .ne 11, 3) := by decide +kernel
theorem dXR_write_99 : decode cXR_write 99 = .ok (.aload_n 0, 1) := by decide +kernel
theorem dXR_write_100 : decode cXR_write 100 = .ok (.iload_n 2, 1) := by decide +kernel
theorem dXR_write_101 : decode cXR_write 101 = .ok (.invokevirtual 93, 3) := by decide +kernel
theorem dXR_write_104 : decode cXR_write 104 = .ok (.goto 92, 3) := by decide +kernel
theorem dXR_write_107 : decode cXR_write 107 = .ok (.iload_n 1, 1) := by decide +kernel
theorem dXR_write_108 : decode cXR_write 108 = .ok (.sipush 1028, 3) := by decide +kernel
theorem dXR_write_111 : decode cXR_write 111 = .ok (.if_icmp .ne 11, 3) := by decide +kernel
theorem dXR_write_114 : decode cXR_write 114 = .ok (.aload_n 0, 1) := by decide +kernel
theorem dXR_write_115 : decode cXR_write 115 = .ok (.iload_n 2, 1) := by decide +kernel
theorem dXR_write_116 : decode cXR_write 116 = .ok (.invokevirtual 97, 3) := by decide +kernel
theorem dXR_write_119 : decode cXR_write 119 = .ok (.goto 77, 3) := by decide +kernel
theorem dXR_write_122 : decode cXR_write 122 = .ok (.iload_n 1, 1) := by decide +kernel
theorem dXR_write_123 : decode cXR_write 123 = .ok (.sipush 1040, 3) := by decide +kernel
theorem dXR_write_126 : decode cXR_write 126 = .ok (.if_icmp .ne 25, 3) := by decide +kernel
theorem dXR_write_129 : decode cXR_write 129 = .ok (.aload_n 0, 1) := by decide +kernel
theorem dXR_write_130 : decode cXR_write 130 = .ok (.iload_n 2, 1) := by decide +kernel
theorem dXR_write_131 : decode cXR_write 131 = .ok (.bipush 8, 2) := by decide +kernel
theorem dXR_write_133 : decode cXR_write 133 = .ok (.ishr, 1) := by decide +kernel
theorem dXR_write_134 : decode cXR_write 134 = .ok (.iconst 1, 1) := by decide +kernel
theorem dXR_write_135 : decode cXR_write 135 = .ok (.iand, 1) := by decide +kernel
theorem dXR_write_136 : decode cXR_write 136 = .ok (.iconst 1, 1) := by decide +kernel
theorem dXR_write_137 : decode cXR_write 137 = .ok (.if_icmp .ne 7, 3) := by decide +kernel
theorem dXR_write_140 : decode cXR_write 140 = .ok (.iconst 1, 1) := by decide +kernel
theorem dXR_write_141 : decode cXR_write 141 = .ok (.goto 4, 3) := by decide +kernel
theorem dXR_write_144 : decode cXR_write 144 = .ok (.iconst 0, 1) := by decide +kernel
theorem dXR_write_145 : decode cXR_write 145 = .ok (.putfield 44, 3) := by decide +kernel
theorem dXR_write_148 : decode cXR_write 148 = .ok (.goto 48, 3) := by decide +kernel
theorem dXR_write_151 : decode cXR_write 151 = .ok (.iload_n 1, 1) := by decide +kernel
theorem dXR_write_152 : decode cXR_write 152 = .ok (.sipush 1044, 3) := by decide +kernel
theorem dXR_write_155 : decode cXR_write 155 = .ok (.if_icmp .ne 24, 3) := by decide +kernel
theorem dXR_write_158 : decode cXR_write 158 = .ok (.aload_n 0, 1) := by decide +kernel
theorem dXR_write_159 : decode cXR_write 159 = .ok (.iload_n 2, 1) := by decide +kernel
theorem dXR_write_160 : decode cXR_write 160 = .ok (.bipush 8, 2) := by decide +kernel
theorem dXR_write_162 : decode cXR_write 162 = .ok (.ishr, 1) := by decide +kernel
theorem dXR_write_163 : decode cXR_write 163 = .ok (.iconst 1, 1) := by decide +kernel
theorem dXR_write_164 : decode cXR_write 164 = .ok (.iand, 1) := by decide +kernel
theorem dXR_write_165 : decode cXR_write 165 = .ok (.ifCond .ne 7, 3) := by decide +kernel
theorem dXR_write_168 : decode cXR_write 168 = .ok (.iconst 1, 1) := by decide +kernel
theorem dXR_write_169 : decode cXR_write 169 = .ok (.goto 4, 3) := by decide +kernel
theorem dXR_write_172 : decode cXR_write 172 = .ok (.iconst 0, 1) := by decide +kernel
theorem dXR_write_173 : decode cXR_write 173 = .ok (.invokevirtual 100, 3) := by decide +kernel
theorem dXR_write_176 : decode cXR_write 176 = .ok (.goto 20, 3) := by decide +kernel
theorem dXR_write_179 : decode cXR_write 179 = .ok (.iload_n 1, 1) := by decide +kernel
theorem dXR_write_180 : decode cXR_write 180 = .ok (.sipush 1048, 3) := by decide +kernel
theorem dXR_write_183 : decode cXR_write 183 = .ok (.if_icmp .ne 13, 3) := by decide +kernel
theorem dXR_write_186 : decode cXR_write 186 = .ok (.aload_n 0, 1) := by decide +kernel
theorem dXR_write_187 : decode cXR_write 187 = .ok (.iload_n 2, 1) := by decide +kernel
theorem dXR_write_188 : decode cXR_write 188 = .ok (.bipush 6, 2) := by decide +kernel
theorem dXR_write_190 : decode cXR_write 190 = .ok (.ishr, 1) := by decide +kernel
theorem dXR_write_191 : decode cXR_write 191 = .ok (.iconst 1, 1) := by decide +kernel
theorem dXR_write_192 : decode cXR_write 192 = .ok (.iand, 1) := by decide +kernel
theorem dXR_write_193 : decode cXR_write 193 = .ok (.putfield 73, 3) := by decide +kernel
theorem dXR_write_196 : decode cXR_write 196 = .ok (.return_, 1) := by decide +kernel
theorem dXR_resetSecond_0 : decode cXR_resetSecond 0 = .ok (.iload_n 1, 1) := by decide +kernel
theorem dXR_resetSecond_1 : decode cXR_resetSecond 1 = .ok (.ifCond .ne 50, 3) := by decide +kernel
theorem dXR_resetSecond_4 : decode cXR_resetSecond 4 = .ok (.aload_n 0, 1) := by decide +kernel
theorem dXR_resetSecond_5 : decode cXR_resetSecond 5 = .ok (.getfield 22, 3) := by decide +kernel
theorem dXR_resetSecond_8 : decode cXR_resetSecond 8 = .ok (.ifCond .eq 43, 3) := by decide +kernel
theorem dXR_resetSecond_11 : decode cXR_resetSecond 11 = .ok (.aload_n 0, 1) := by decide +kernel
theorem dXR_resetSecond_12 : decode cXR_resetSecond 12 = .ok (.iconst 0, 1) := by decide +kernel
theorem dXR_resetSecond_13 : decode cXR_resetSecond 13 = .ok (.putfield 104, 3) := by decide +kernel
theorem dXR_resetSecond_16 : decode cXR_resetSecond 16 = .ok (.aload_n 0, 1) := by decide +kernel
theorem dXR_resetSecond_17 : decode cXR_resetSecond 17 = .ok (.iconst 0, 1) := by decide +kernel
theorem dXR_resetSecond_18 : decode cXR_resetSecond 18 = .ok (.putfield 107, 3) := by decide +kernel
theorem dXR_resetSecond_21 : decode cXR_resetSecond 21 = .ok (.aload_n 0, 1) := by decide +kernel
theorem dXR_resetSecond_22 : decode cXR_resetSecond 22 = .ok (.iconst 0, 1) := by decide +kernel
theorem dXR_resetSecond_23 : decode cXR_resetSecond 23 = .ok (.putfield 110, 3) := by decide +kernel
theorem dXR_resetSecond_26 : decode cXR_resetSecond 26 = .ok (.aload_n 0, 1) := by decide +kernel
theorem dXR_resetSecond_27 : decode cXR_resetSecond 27 = .ok (.iconst 0, 1) := by decide +kernel
theorem dXR_resetSecond_28 : decode cXR_resetSecond 28 = .ok (.putfield 113, 3) := by decide +kernel
theorem dXR_resetSecond_31 : decode cXR_resetSecond 31 = .ok (.aload_n 0, 1) := by decide +kernel
theorem dXR_resetSecond_32 : decode cXR_resetSecond 32 = .ok (.iconst 0, 1) := by decide +kernel
theorem dXR_resetSecond_33 : decode cXR_resetSecond 33 = .ok (.putfield 116, 3) := by decide +kernel
theorem dXR_resetSecond_36 : decode cXR_resetSecond 36 = .ok (.aload_n 0, 1) := by decide +kernel
theorem dXR_resetSecond_37 : decode cXR_resetSecond 37 = .ok (.iconst 0, 1) := by decide +kernel
theorem dXR_resetSecond_38 : decode cXR_resetSecond 38 = .ok (.putfield 119, 3) := by decide +kernel
theorem dXR_resetSecond_41 : decode cXR_resetSecond 41 = .ok (.aload_n 0, 1) := by decide +kernel
theorem dXR_resetSecond_42 : decode cXR_resetSecond 42 = .ok (.iconst 0, 1) := by decide +kernel
theorem dXR_resetSecond_43 : decode cXR_resetSecond 43 = .ok (.putfield 122, 3) := by decide +kernel
theorem dXR_resetSecond_46 : decode cXR_resetSecond 46 = .ok (.aload_n 0, 1) := by decide +kernel
theorem dXR_resetSecond_47 : decode cXR_resetSecond 47 = .ok (.iconst 0, 1) := by decide +kernel
theorem dXR_resetSecond_48 : decode cXR_resetSecond 48 = .ok (.putfield 125, 3) := by decide +kernel
theorem dXR_resetSecond_51 : decode cXR_resetSecond 51 = .ok (.aload_n 0, 1) := by decide +kernel
theorem dXR_resetSecond_52 : decode cXR_resetSecond 52 = .ok (.iload_n 1, 1) := by decide +kernel
theorem dXR_resetSecond_53 : decode cXR_resetSecond 53 = .ok (.putfield 22, 3) := by decide +kernel
theorem dXR_resetSecond_56 : decode cXR_resetSecond 56 = .ok (.return_, 1) := by decide +kernel
theorem dXR_vramWord_0 : decode cXR_vramWord 0 = .ok (.sipush 256, 3) := by decide +kernel
theorem dXR_vramWord_3 : decode cXR_vramWord 3 = .ok (.aload_n 0, 1) := by decide +kernel
theorem dXR_vramWord_4 : decode cXR_vramWord 4 = .ok (.getfield 26, 3) := by decide +kernel
theorem dXR_vramWord_7 : decode cXR_vramWord 7 = .ok (.iconst 2, 1) := by decide +kernel
theorem dXR_vramWord_8 : decode cXR_vramWord 8 = .ok (.iload_n 1, 1) := by decide +kernel
theorem dXR_vramWord_9 : decode cXR_vramWord 9 = .ok (.imul, 1) := by decide +kernel
theorem dXR_vramWord_10 : decode cXR_vramWord 10 = .ok (.iaload, 1) := by decide +kernel
theorem dXR_vramWord_11 : decode cXR_vramWord 11 = .ok (.imul, 1) := by decide +kernel
theorem dXR_vramWord_12 : decode cXR_vramWord 12 = .ok (.aload_n 0, 1) := by decide +kernel
theorem dXR_vramWord_13 : decode cXR_vramWord 13 = .ok (.getfield 26, 3) := by decide +kernel
theorem dXR_vramWord_16 : decode cXR_vramWord 16 = .ok (.iconst 2, 1) := by decide +kernel
theorem dXR_vramWord_17 : decode cXR_vramWord 17 = .ok (.iload_n 1, 1) := by decide +kernel
theorem dXR_vramWord_18 : decode cXR_vramWord 18 = .ok (.imul, 1) := by decide +kernel
theorem dXR_vramWord_19 : decode cXR_vramWord 19 = .ok (.iconst 1, 1) := by decide +kernel
theorem dXR_vramWord_20 : decode cXR_vramWord 20 = .ok (.iadd, 1) := by decide +kernel
theorem dXR_vramWord_21 : decode cXR_vramWord 21 = .ok (.iaload, 1) := by decide +kernel
theorem dXR_vramWord_22 : decode cXR_vramWord 22 = .ok (.iadd, 1) := by decide +kernel
theorem dXR_vramWord_23 : decode cXR_vramWord 23 = .ok (.ireturn, 1) := by decide +kernel
theorem dXR_grow_0 : decode cXR_grow 0 = .ok (.aload_n 0, 1) := by decide +kernel
theorem dXR_grow_1 : decode cXR_grow 1 = .ok (.aload_n 0, 1) := by decide +kernel
theorem dXR_grow_2 : decode cXR_grow 2 = .ok (.getfield 128, 3) := by decide +kernel
theorem dXR_grow_5 : decode cXR_grow 5 = .ok (.aload_n 0, 1) := by decide +kernel
theorem dXR_grow_6 : decode cXR_grow 6 = .ok (.getfield 35, 3) := by decide +kernel
theorem dXR_grow_9 : decode cXR_grow 9 = .ok (.bipush 14, 2) := by decide +kernel
theorem dXR_grow_11 : decode cXR_grow 11 = .ok (.iaload, 1) := by decide +kernel
theorem dXR_grow_12 : decode cXR_grow 12 = .ok (.iadd, 1) := by decide +kernel
theorem dXR_grow_13 : decode cXR_grow 13 = .ok (.ldc 131, 2) := by decide +kernel
theorem dXR_grow_15 : decode cXR_grow 15 = .ok (.iand, 1) := by decide +kernel
theorem dXR_grow_16 : decode cXR_grow 16 = .ok (.putfield 128, 3) := by decide +kernel
theorem dXR_grow_19 : decode cXR_grow 19 = .ok (.return_, 1) := by decide +kernel
theorem dXR_readData_0 : decode cXR_readData 0 = .ok (.aload_n 0, 1) := by decide +kernel
theorem dXR_readData_1 : decode cXR_readData 1 = .ok (.iconst 0, 1) := by decide +kernel
theorem dXR_readData_2 : decode cXR_readData 2 = .ok (.putfield 67, 3) := by decide +kernel
theorem dXR_readData_5 : decode cXR_readData 5 = .ok (.aload_n 0, 1) := by decide +kernel
theorem dXR_readData_6 : decode cXR_readData 6 = .ok (.getfield 132, 3) := by decide +kernel
theorem dXR_readData_9 : decode cXR_readData 9 = .ok (.bipush 15, 2) := by decide +kernel
theorem dXR_readData_11 : decode cXR_readData 11 = .ok (.iand, 1) := by decide +kernel
theorem dXR_readData_12 : decode cXR_readData 12 = .ok (.istore_n 1, 1) := by decide +kernel
theorem dXR_readData_13 : decode cXR_readData 13 = .ok (.aload_n 0, 1) := by decide +kernel
theorem dXR_readData_14 : decode cXR_readData 14 = .ok (.getfield 128, 3) := by decide +kernel
theorem dXR_readData_17 : decode cXR_readData 17 = .ok (.iconst 2, 1) := by decide +kernel
theorem dXR_readData_18 : decode cXR_readData 18 = .ok (.idiv, 1) := by decide +kernel
theorem dXR_readData_19 : decode cXR_readData 19 = .ok (.istore_n 2, 1) := by decide +kernel
theorem dXR_readData_20 : decode cXR_readData 20 = .ok (.iconst 0, 1) := by decide +kernel
theorem dXR_readData_21 : decode cXR_readData 21 = .ok (.istore_n 3, 1) := by decide +kernel
theorem dXR_readData_22 : decode cXR_readData 22 = .ok (.iload_n 1, 1) := by decide +kernel
theorem dXR_readData_23 : decode cXR_readData 23 = .ok (.ifCond .ne 16, 3) := by decide +kernel
theorem dXR_readData_26 : decode cXR_readData 26 = .ok (.aload_n 0, 1) := by decide +kernel
theorem dXR_readData_27 : decode cXR_readData 27 = .ok (.iload_n 2, 1) := by decide +kernel
theorem dXR_readData_28 : decode cXR_readData 28 = .ok (.sipush 512, 3) := by decide +kernel
theorem dXR_readData_31 : decode cXR_readData 31 = .ok (.irem, 1) := by decide +kernel
theorem dXR_readData_32 : decode cXR_readData 32 = .ok (.invokevirtual 135, 3) := by decide +kernel
theorem dXR_readData_35 : decode cXR_readData 35 = .ok (.istore_n 3, 1) := by decide +kernel
theorem dXR_readData_36 : decode cXR_readData 36 = .ok (.goto 36, 3) := by decide +kernel
theorem dXR_readData_39 : decode cXR_readData 39 = .ok (.iload_n 1, 1) := by decide +kernel
theorem dXR_readData_40 : decode cXR_readData 40 = .ok (.bipush 8, 2) := by decide +kernel
theorem dXR_readData_42 : decode cXR_readData 42 = .ok (.if_icmp .ne 16, 3) := by decide +kernel
theorem dXR_readData_45 : decode cXR_readData 45 = .ok (.aload_n 0, 1) := by decide +kernel
theorem dXR_readData_46 : decode cXR_readData 46 = .ok (.getfield 29, 3) := by decide +kernel
theorem dXR_readData_49 : decode cXR_readData 49 = .ok (.iload_n 2, 1) := by decide +kernel
theorem dXR_readData_50 : decode cXR_readData 50 = .ok (.bipush 16, 2) := by decide +kernel
theorem dXR_readData_52 : decode cXR_readData 52 = .ok (.irem, 1) := by decide +kernel
theorem dXR_readData_53 : decode cXR_readData 53 = .ok (.iaload, 1) := by decide +kernel
theorem dXR_readData_54 : decode cXR_readData 54 = .ok (.istore_n 3, 1) := by decide +kernel
theorem dXR_readData_55 : decode cXR_readData 55 = .ok (.goto 17, 3) := by decide +kernel
theorem dXR_readData_58 : decode cXR_readData 58 = .ok (.iload_n 1, 1) := by decide +kernel
theorem dXR_readData_59 : decode cXR_readData 59 = .ok (.iconst 4, 1) := by decide +kernel
theorem dXR_readData_60 : decode cXR_readData 60 = .ok (.if_icmp .ne 12, 3) := by decide +kernel
theorem dXR_readData_63 : decode cXR_readData 63 = .ok (.aload_n 0, 1) := by decide +kernel
theorem dXR_readData_64 : decode cXR_readData 64 = .ok (.getfield 32, 3) := by decide +kernel
theorem dXR_readData_67 : decode cXR_readData 67 = .ok (.iload_n 2, 1) := by decide +kernel
theorem dXR_readData_68 : decode cXR_readData 68 = .ok (.iconst 2, 1) := by decide +kernel
theorem dXR_readData_69 : decode cXR_readData 69 = .ok (.irem, 1) := by decide +kernel
theorem dXR_readData_70 : decode cXR_readData 70 = .ok (.iaload, 1) := by decide +kernel
theorem dXR_readData_71 : decode cXR_readData 71 = .ok (.istore_n 3, 1) := by decide +kernel
theorem dXR_readData_72 : decode cXR_readData 72 = .ok (.aload_n 0, 1) := by decide +kernel
theorem dXR_readData_73 : decode cXR_readData 73 = .ok (.invokevirtual 138, 3) := by decide +kernel
theorem dXR_readData_76 : decode cXR_readData 76 = .ok (.iload_n 3, 1) := by decide +kernel
theorem dXR_readData_77 : decode cXR_readData 77 = .ok (.ireturn, 1) := by decide +kernel
theorem dXR_put_0 : decode cXR_put 0 = .ok (.aload_n 0, 1) := by decide +kernel
theorem dXR_put_1 : decode cXR_put 1 = .ok (.getfield 132, 3) := by decide +kernel
theorem dXR_put_4 : decode cXR_put 4 = .ok (.bipush 15, 2) := by decide +kernel
theorem dXR_put_6 : decode cXR_put 6 = .ok (.iand, 1) := by decide +kernel
theorem dXR_put_7 : decode cXR_put 7 = .ok (.istore_n 2, 1) := by decide +kernel
theorem dXR_put_8 : decode cXR_put 8 = .ok (.aload_n 0, 1) := by decide +kernel
theorem dXR_put_9 : decode cXR_put 9 = .ok (.getfield 128, 3) := by decide +kernel
theorem dXR_put_12 : decode cXR_put 12 = .ok (.iconst 2, 1) := by decide +kernel
theorem dXR_put_13 : decode cXR_put 13 = .ok (.idiv, 1) := by decide +kernel
theorem dXR_put_14 : decode cXR_put 14 = .ok (.istore_n 3, 1) := by decide +kernel
theorem dXR_put_15 : decode cXR_put 15 = .ok (.iload_n 2, 1) := by decide +kernel
theorem dXR_put_16 : decode cXR_put 16 = .ok (.iconst 1, 1) := by decide +kernel
theorem dXR_put_17 : decode cXR_put 17 = .ok (.if_icmp .ne 83, 3) := by decide +kernel
theorem dXR_put_20 : decode cXR_put 20 = .ok (.aload_n 0, 1) := by decide +kernel
theorem dXR_put_21 : decode cXR_put 21 = .ok (.getfield 128, 3) := by decide +kernel
theorem dXR_put_24 : decode cXR_put 24 = .ok (.iconst 2, 1) := by decide +kernel
theorem dXR_put_25 : decode cXR_put 25 = .ok (.irem, 1) := by decide +kernel
theorem dXR_put_26 : decode cXR_put 26 = .ok (.iconst 1, 1) := by decide +kernel
theorem dXR_put_27 : decode cXR_put 27 = .ok (.if_icmp .ne 7, 3) := by decide +kernel
theorem dXR_put_30 : decode cXR_put 30 = .ok (.iconst 1, 1) := by decide +kernel
theorem dXR_put_31 : decode cXR_put 31 = .ok (.goto 4, 3) := by decide +kernel
theorem dXR_put_34 : decode cXR_put 34 = .ok (.iconst 0, 1) := by decide +kernel
theorem dXR_put_35 : decode cXR_put 35 = .ok (.istore 4, 2) := by decide +kernel
theorem dXR_put_37 : decode cXR_put 37 = .ok (.aload_n 0, 1) := by decide +kernel
theorem dXR_put_38 : decode cXR_put 38 = .ok (.getfield 26, 3) := by decide +kernel
theorem dXR_put_41 : decode cXR_put 41 = .ok (.iload_n 3, 1) := by decide +kernel
theorem dXR_put_42 : decode cXR_put 42 = .ok (.sipush 512, 3) := by decide +kernel
theorem dXR_put_45 : decode cXR_put 45 = .ok (.irem, 1) := by decide +kernel
theorem dXR_put_46 : decode cXR_put 46 = .ok (.iconst 2, 1) := by decide +kernel
theorem dXR_put_47 : decode cXR_put 47 = .ok (.imul, 1) := by decide +kernel
theorem dXR_put_48 : decode cXR_put 48 = .ok (.iload 4, 2) := by decide +kernel
theorem dXR_put_50 : decode cXR_put 50 = .ok (.ifCond .eq 11, 3) := by decide +kernel
theorem dXR_put_53 : decode cXR_put 53 = .ok (.iload_n 1, 1) := by decide +kernel
theorem dXR_put_54 : decode cXR_put 54 = .ok (.sipush 255, 3) := by decide +kernel
theorem dXR_put_57 : decode cXR_put 57 = .ok (.iand, 1) := by decide +kernel
theorem dXR_put_58 : decode cXR_put 58 = .ok (.goto 7, 3) := by decide +kernel
theorem dXR_put_61 : decode cXR_put 61 = .ok (.iload_n 1, 1) := by decide +kernel
theorem dXR_put_62 : decode cXR_put 62 = .ok (.bipush 8, 2) := by decide +kernel
theorem dXR_put_64 : decode cXR_put 64 = .ok (.ishr, 1) := by decide +kernel
theorem dXR_put_65 : decode cXR_put 65 = .ok (.iastore, 1) := by decide +kernel
theorem dXR_put_66 : decode cXR_put 66 = .ok (.aload_n 0, 1) := by decide +kernel
theorem dXR_put_67 : decode cXR_put 67 = .ok (.getfield 26, 3) := by decide +kernel
theorem dXR_put_70 : decode cXR_put 70 = .ok (.iload_n 3, 1) := by decide +kernel
theorem dXR_put_71 : decode cXR_put 71 = .ok (.sipush 512, 3) := by decide +kernel
theorem dXR_put_74 : decode cXR_put 74 = .ok (.irem, 1) := by decide +kernel
theorem dXR_put_75 : decode cXR_put 75 = .ok (.iconst 2, 1) := by decide +kernel
theorem dXR_put_76 : decode cXR_put 76 = .ok (.imul, 1) := by decide +kernel
theorem dXR_put_77 : decode cXR_put 77 = .ok (.iconst 1, 1) := by decide +kernel
theorem dXR_put_78 : decode cXR_put 78 = .ok (.iadd, 1) := by decide +kernel
theorem dXR_put_79 : decode cXR_put 79 = .ok (.iload 4, 2) := by decide +kernel
theorem dXR_put_81 : decode cXR_put 81 = .ok (.ifCond .eq 10, 3) := by decide +kernel
theorem dXR_put_84 : decode cXR_put 84 = .ok (.iload_n 1, 1) := by decide +kernel
theorem dXR_put_85 : decode cXR_put 85 = .ok (.bipush 8, 2) := by decide +kernel
theorem dXR_put_87 : decode cXR_put 87 = .ok (.ishr, 1) := by decide +kernel
theorem dXR_put_88 : decode cXR_put 88 = .ok (.goto 8, 3) := by decide +kernel
theorem dXR_put_91 : decode cXR_put 91 = .ok (.iload_n 1, 1) := by decide +kernel
theorem dXR_put_92 : decode cXR_put 92 = .ok (.sipush 255, 3) := by decide +kernel
theorem dXR_put_95 : decode cXR_put 95 = .ok (.iand, 1) := by decide +kernel
theorem dXR_put_96 : decode cXR_put 96 = .ok (.iastore, 1) := by decide +kernel
theorem dXR_put_97 : decode cXR_put 97 = .ok (.goto 35, 3) := by decide +kernel
theorem dXR_put_100 : decode cXR_put 100 = .ok (.iload_n 2, 1) := by decide +kernel
theorem dXR_put_101 : decode cXR_put 101 = .ok (.iconst 3, 1) := by decide +kernel
theorem dXR_put_102 : decode cXR_put 102 = .ok (.if_icmp .ne 16, 3) := by decide +kernel
theorem dXR_put_105 : decode cXR_put 105 = .ok (.aload_n 0, 1) := by decide +kernel
theorem dXR_put_106 : decode cXR_put 106 = .ok (.getfield 29, 3) := by decide +kernel
theorem dXR_put_109 : decode cXR_put 109 = .ok (.iload_n 3, 1) := by decide +kernel
theorem dXR_put_110 : decode cXR_put 110 = .ok (.bipush 16, 2) := by decide +kernel
theorem dXR_put_112 : decode cXR_put 112 = .ok (.irem, 1) := by decide +kernel
theorem dXR_put_113 : decode cXR_put 113 = .ok (.iload_n 1, 1) := by decide +kernel
theorem dXR_put_114 : decode cXR_put 114 = .ok (.iastore, 1) := by decide +kernel
theorem dXR_put_115 : decode cXR_put 115 = .ok (.goto 17, 3) := by decide +kernel
theorem dXR_put_118 : decode cXR_put 118 = .ok (.iload_n 2, 1) := by decide +kernel
theorem dXR_put_119 : decode cXR_put 119 = .ok (.iconst 5, 1) := by decide +kernel
theorem dXR_put_120 : decode cXR_put 120 = .ok (.if_icmp .ne 12, 3) := by decide +kernel
theorem dXR_put_123 : decode cXR_put 123 = .ok (.aload_n 0, 1) := by decide +kernel
theorem dXR_put_124 : decode cXR_put 124 = .ok (.getfield 32, 3) := by decide +kernel
theorem dXR_put_127 : decode cXR_put 127 = .ok (.iload_n 3, 1) := by decide +kernel
theorem dXR_put_128 : decode cXR_put 128 = .ok (.iconst 2, 1) := by decide +kernel
theorem dXR_put_129 : decode cXR_put 129 = .ok (.irem, 1) := by decide +kernel
theorem dXR_put_130 : decode cXR_put 130 = .ok (.iload_n 1, 1) := by decide +kernel
theorem dXR_put_131 : decode cXR_put 131 = .ok (.iastore, 1) := by decide +kernel
theorem dXR_put_132 : decode cXR_put 132 = .ok (.aload_n 0, 1) := by decide +kernel
theorem dXR_put_133 : decode cXR_put 133 = .ok (.invokevirtual 138, 3) := by decide +kernel
theorem dXR_put_136 : decode cXR_put 136 = .ok (.return_, 1) := by decide +kernel
theorem dXR_length_0 : decode cXR_length 0 = .ok (.sipush 256, 3) := by decide +kernel
theorem dXR_length_3 : decode cXR_length 3 = .ok (.aload_n 0, 1) := by decide +kernel
theorem dXR_length_4 : decode cXR_length 4 = .ok (.getfield 35, 3) := by decide +kernel
theorem dXR_length_7 : decode cXR_length 7 = .ok (.bipush 12, 2) := by decide +kernel
theorem dXR_length_9 : decode cXR_length 9 = .ok (.iaload, 1) := by decide +kernel
theorem dXR_length_10 : decode cXR_length 10 = .ok (.imul, 1) := by decide +kernel
theorem dXR_length_11 : decode cXR_length 11 = .ok (.aload_n 0, 1) := by decide +kernel
theorem dXR_length_12 : decode cXR_length 12 = .ok (.getfield 35, 3) := by decide +kernel
theorem dXR_length_15 : decode cXR_length 15 = .ok (.bipush 11, 2) := by decide +kernel
theorem dXR_length_17 : decode cXR_length 17 = .ok (.iaload, 1) := by decide +kernel
theorem dXR_length_18 : decode cXR_length 18 = .ok (.iadd, 1) := by decide +kernel
theorem dXR_length_19 : decode cXR_length 19 = .ok (.sipush 512, 3) := by decide +kernel
theorem dXR_length_22 : decode cXR_length 22 = .ok (.irem, 1) := by decide +kernel
theorem dXR_length_23 : decode cXR_length 23 = .ok (.istore_n 1, 1) := by decide +kernel
theorem dXR_length_24 : decode cXR_length 24 = .ok (.iload_n 1, 1) := by decide +kernel
theorem dXR_length_25 : decode cXR_length 25 = .ok (.ifCond .ne 9, 3) := by decide +kernel
theorem dXR_length_28 : decode cXR_length 28 = .ok (.sipush 512, 3) := by decide +kernel
theorem dXR_length_31 : decode cXR_length 31 = .ok (.goto 4, 3) := by decide +kernel
theorem dXR_length_34 : decode cXR_length 34 = .ok (.iload_n 1, 1) := by decide +kernel
theorem dXR_length_35 : decode cXR_length 35 = .ok (.ireturn, 1) := by decide +kernel
theorem dXR_endMove_0 : decode cXR_endMove 0 = .ok (.aload_n 0, 1) := by decide +kernel
theorem dXR_endMove_1 : decode cXR_endMove 1 = .ok (.getfield 35, 3) := by decide +kernel
theorem dXR_endMove_4 : decode cXR_endMove 4 = .ok (.bipush 11, 2) := by decide +kernel
theorem dXR_endMove_6 : decode cXR_endMove 6 = .ok (.iconst 0, 1) := by decide +kernel
theorem dXR_endMove_7 : decode cXR_endMove 7 = .ok (.iastore, 1) := by decide +kernel
theorem dXR_endMove_8 : decode cXR_endMove 8 = .ok (.aload_n 0, 1) := by decide +kernel
theorem dXR_endMove_9 : decode cXR_endMove 9 = .ok (.getfield 35, 3) := by decide +kernel
theorem dXR_endMove_12 : decode cXR_endMove 12 = .ok (.bipush 12, 2) := by decide +kernel
theorem dXR_endMove_14 : decode cXR_endMove 14 = .ok (.iconst 0, 1) := by decide +kernel
theorem dXR_endMove_15 : decode cXR_endMove 15 = .ok (.iastore, 1) := by decide +kernel
theorem dXR_endMove_16 : decode cXR_endMove 16 = .ok (.return_, 1) := by decide +kernel
theorem dXR_writeData_0 : decode cXR_writeData 0 = .ok (.aload_n 0, 1) := by decide +kernel
theorem dXR_writeData_1 : decode cXR_writeData 1 = .ok (.iconst 0, 1) := by decide +kernel
theorem dXR_writeData_2 : decode cXR_writeData 2 = .ok (.putfield 67, 3) := by decide +kernel
theorem dXR_writeData_5 : decode cXR_writeData 5 = .ok (.aload_n 0, 1) := by decide +kernel
theorem dXR_writeData_6 : decode cXR_writeData 6 = .ok (.iload_n 1, 1) := by decide +kernel
theorem dXR_writeData_7 : decode cXR_writeData 7 = .ok (.invokevirtual 141, 3) := by decide +kernel
theorem dXR_writeData_10 : decode cXR_writeData 10 = .ok (.aload_n 0, 1) := by decide +kernel
theorem dXR_writeData_11 : decode cXR_writeData 11 = .ok (.getfield 144, 3) := by decide +kernel
theorem dXR_writeData_14 : decode cXR_writeData 14 = .ok (.ifCond .eq 53, 3) := by decide +kernel
theorem dXR_writeData_17 : decode cXR_writeData 17 = .ok (.aload_n 0, 1) := by decide +kernel
theorem dXR_writeData_18 : decode cXR_writeData 18 = .ok (.iconst 0, 1) := by decide +kernel
theorem dXR_writeData_19 : decode cXR_writeData 19 = .ok (.putfield 144, 3) := by decide +kernel
theorem dXR_writeData_22 : decode cXR_writeData 22 = .ok (.aload_n 0, 1) := by decide +kernel
theorem dXR_writeData_23 : decode cXR_writeData 23 = .ok (.invokevirtual 147, 3) := by decide +kernel
theorem dXR_writeData_26 : decode cXR_writeData 26 = .ok (.istore_n 2, 1) := by decide +kernel
theorem dXR_writeData_27 : decode cXR_writeData 27 = .ok (.iconst 0, 1) := by decide +kernel
theorem dXR_writeData_28 : decode cXR_writeData 28 = .ok (.istore_n 3, 1) := by decide +kernel
theorem dXR_writeData_29 : decode cXR_writeData 29 = .ok (.iload_n 3, 1) := by decide +kernel
theorem dXR_writeData_30 : decode cXR_writeData 30 = .ok (.iload_n 2, 1) := by decide +kernel
theorem dXR_writeData_31 : decode cXR_writeData 31 = .ok (.if_icmp .ge 32, 3) := by decide +kernel
theorem dXR_writeData_34 : decode cXR_writeData 34 = .ok (.aload_n 0, 1) := by decide +kernel
theorem dXR_writeData_35 : decode cXR_writeData 35 = .ok (.getfield 26, 3) := by decide +kernel
theorem dXR_writeData_38 : decode cXR_writeData 38 = .ok (.aload_n 0, 1) := by decide +kernel
theorem dXR_writeData_39 : decode cXR_writeData 39 = .ok (.getfield 128, 3) := by decide +kernel
theorem dXR_writeData_42 : decode cXR_writeData 42 = .ok (.iconst 1, 1) := by decide +kernel
theorem dXR_writeData_43 : decode cXR_writeData 43 = .ok (.ixor, 1) := by decide +kernel
theorem dXR_writeData_44 : decode cXR_writeData 44 = .ok (.sipush 1024, 3) := by decide +kernel
theorem dXR_writeData_47 : decode cXR_writeData 47 = .ok (.irem, 1) := by decide +kernel
theorem dXR_writeData_48 : decode cXR_writeData 48 = .ok (.iload_n 1, 1) := by decide +kernel
theorem dXR_writeData_49 : decode cXR_writeData 49 = .ok (.bipush 8, 2) := by decide +kernel
theorem dXR_writeData_51 : decode cXR_writeData 51 = .ok (.ishr, 1) := by decide +kernel
theorem dXR_writeData_52 : decode cXR_writeData 52 = .ok (.iastore, 1) := by decide +kernel
theorem dXR_writeData_53 : decode cXR_writeData 53 = .ok (.aload_n 0, 1) := by decide +kernel
theorem dXR_writeData_54 : decode cXR_writeData 54 = .ok (.invokevirtual 138, 3) := by decide +kernel
theorem dXR_writeData_57 : decode cXR_writeData 57 = .ok (.iinc 3 1, 3) := by decide +kernel
theorem dXR_writeData_60 : decode cXR_writeData 60 = .ok (.goto (-31), 3) := by decide +kernel
theorem dXR_writeData_63 : decode cXR_writeData 63 = .ok (.aload_n 0, 1) := by decide +kernel
theorem dXR_writeData_64 : decode cXR_writeData 64 = .ok (.invokevirtual 150, 3) := by decide +kernel
theorem dXR_writeData_67 : decode cXR_writeData 67 = .ok (.return_, 1) := by decide +kernel
theorem dXR_half_0 : decode cXR_half 0 = .ok (.aload_n 0, 1) := by decide +kernel
theorem dXR_half_1 : decode cXR_half 1 = .ok (.getfield 35, 3) := by decide +kernel
theorem dXR_half_4 : decode cXR_half 4 = .ok (.bipush 10, 2) := by decide +kernel
theorem dXR_half_6 : decode cXR_half 6 = .ok (.iaload, 1) := by decide +kernel
theorem dXR_half_7 : decode cXR_half 7 = .ok (.bipush 127, 2) := by decide +kernel
theorem dXR_half_9 : decode cXR_half 9 = .ok (.iand, 1) := by decide +kernel
theorem dXR_half_10 : decode cXR_half 10 = .ok (.sipush 256, 3) := by decide +kernel
theorem dXR_half_13 : decode cXR_half 13 = .ok (.imul, 1) := by decide +kernel
theorem dXR_half_14 : decode cXR_half 14 = .ok (.aload_n 0, 1) := by decide +kernel
theorem dXR_half_15 : decode cXR_half 15 = .ok (.getfield 35, 3) := by decide +kernel
theorem dXR_half_18 : decode cXR_half 18 = .ok (.bipush 9, 2) := by decide +kernel
theorem dXR_half_20 : decode cXR_half 20 = .ok (.iaload, 1) := by decide +kernel
theorem dXR_half_21 : decode cXR_half 21 = .ok (.iadd, 1) := by decide +kernel
theorem dXR_half_22 : decode cXR_half 22 = .ok (.ireturn, 1) := by decide +kernel
theorem dXR_begin_0 : decode cXR_begin 0 = .ok (.aload_n 0, 1) := by decide +kernel
theorem dXR_begin_1 : decode cXR_begin 1 = .ok (.getfield 35, 3) := by decide +kernel
theorem dXR_begin_4 : decode cXR_begin 4 = .ok (.bipush 15, 2) := by decide +kernel
theorem dXR_begin_6 : decode cXR_begin 6 = .ok (.iaload, 1) := by decide +kernel
theorem dXR_begin_7 : decode cXR_begin 7 = .ok (.bipush 6, 2) := by decide +kernel
theorem dXR_begin_9 : decode cXR_begin 9 = .ok (.ishr, 1) := by decide +kernel
theorem dXR_begin_10 : decode cXR_begin 10 = .ok (.istore_n 1, 1) := by decide +kernel
theorem dXR_begin_11 : decode cXR_begin 11 = .ok (.iload_n 1, 1) := by decide +kernel
theorem dXR_begin_12 : decode cXR_begin 12 = .ok (.iconst 2, 1) := by decide +kernel
theorem dXR_begin_13 : decode cXR_begin 13 = .ok (.if_icmp .ge 24, 3) := by decide +kernel
theorem dXR_begin_16 : decode cXR_begin 16 = .ok (.aload_n 0, 1) := by decide +kernel
theorem dXR_begin_17 : decode cXR_begin 17 = .ok (.aload_n 0, 1) := by decide +kernel
theorem dXR_begin_18 : decode cXR_begin 18 = .ok (.invokevirtual 147, 3) := by decide +kernel
theorem dXR_begin_21 : decode cXR_begin 21 = .ok (.putfield 51, 3) := by decide +kernel
theorem dXR_begin_24 : decode cXR_begin 24 = .ok (.aload_n 0, 1) := by decide +kernel
theorem dXR_begin_25 : decode cXR_begin 25 = .ok (.iconst 2, 1) := by decide +kernel
theorem dXR_begin_26 : decode cXR_begin 26 = .ok (.aload_n 0, 1) := by decide +kernel
theorem dXR_begin_27 : decode cXR_begin 27 = .ok (.invokevirtual 153, 3) := by decide +kernel
theorem dXR_begin_30 : decode cXR_begin 30 = .ok (.imul, 1) := by decide +kernel
theorem dXR_begin_31 : decode cXR_begin 31 = .ok (.putfield 156, 3) := by decide +kernel
theorem dXR_begin_34 : decode cXR_begin 34 = .ok (.goto 75, 3) := by decide +kernel
theorem dXR_begin_37 : decode cXR_begin 37 = .ok (.iload_n 1, 1) := by decide +kernel
theorem dXR_begin_38 : decode cXR_begin 38 = .ok (.iconst 2, 1) := by decide +kernel
theorem dXR_begin_39 : decode cXR_begin 39 = .ok (.if_icmp .ne 11, 3) := by decide +kernel
theorem dXR_begin_42 : decode cXR_begin 42 = .ok (.aload_n 0, 1) := by decide +kernel
theorem dXR_begin_43 : decode cXR_begin 43 = .ok (.iconst 1, 1) := by decide +kernel
theorem dXR_begin_44 : decode cXR_begin 44 = .ok (.putfield 144, 3) := by decide +kernel
theorem dXR_begin_47 : decode cXR_begin 47 = .ok (.goto 62, 3) := by decide +kernel
theorem dXR_begin_50 : decode cXR_begin 50 = .ok (.aload_n 0, 1) := by decide +kernel
theorem dXR_begin_51 : decode cXR_begin 51 = .ok (.invokevirtual 147, 3) := by decide +kernel
theorem dXR_begin_54 : decode cXR_begin 54 = .ok (.istore_n 2, 1) := by decide +kernel
theorem dXR_begin_55 : decode cXR_begin 55 = .ok (.aload_n 0, 1) := by decide +kernel
theorem dXR_begin_56 : decode cXR_begin 56 = .ok (.invokevirtual 153, 3) := by decide +kernel
theorem dXR_begin_59 : decode cXR_begin 59 = .ok (.istore_n 3, 1) := by decide +kernel
theorem dXR_begin_60 : decode cXR_begin 60 = .ok (.iconst 0, 1) := by decide +kernel
theorem dXR_begin_61 : decode cXR_begin 61 = .ok (.istore 4, 2) := by decide +kernel
theorem dXR_begin_63 : decode cXR_begin 63 = .ok (.iload 4, 2) := by decide +kernel
theorem dXR_begin_65 : decode cXR_begin 65 = .ok (.iload_n 2, 1) := by decide +kernel
theorem dXR_begin_66 : decode cXR_begin 66 = .ok (.if_icmp .ge 39, 3) := by decide +kernel
theorem dXR_begin_69 : decode cXR_begin 69 = .ok (.aload_n 0, 1) := by decide +kernel
theorem dXR_begin_70 : decode cXR_begin 70 = .ok (.getfield 26, 3) := by decide +kernel
theorem dXR_begin_73 : decode cXR_begin 73 = .ok (.aload_n 0, 1) := by decide +kernel
theorem dXR_begin_74 : decode cXR_begin 74 = .ok (.getfield 128, 3) := by decide +kernel
theorem dXR_begin_77 : decode cXR_begin 77 = .ok (.sipush 1024, 3) := by decide +kernel
theorem dXR_begin_80 : decode cXR_begin 80 = .ok (.irem, 1) := by decide +kernel
theorem dXR_begin_81 : decode cXR_begin 81 = .ok (.aload_n 0, 1) := by decide +kernel
theorem dXR_begin_82 : decode cXR_begin 82 = .ok (.getfield 26, 3) := by decide +kernel
theorem dXR_begin_85 : decode cXR_begin 85 = .ok (.iload_n 3, 1) := by decide +kernel
theorem dXR_begin_86 : decode cXR_begin 86 = .ok (.iload 4, 2) := by decide +kernel
theorem dXR_begin_88 : decode cXR_begin 88 = .ok (.iadd, 1) := by decide +kernel
theorem dXR_begin_89 : decode cXR_begin 89 = .ok (.sipush 1024, 3) := by decide +kernel
theorem dXR_begin_92 : decode cXR_begin 92 = .ok (.irem, 1) := by decide +kernel
theorem dXR_begin_93 : decode cXR_begin 93 = .ok (.iaload, 1) := by decide +kernel
theorem dXR_begin_94 : decode cXR_begin 94 = .ok (.iastore, 1) := by decide +kernel
theorem dXR_begin_95 : decode cXR_begin 95 = .ok (.aload_n 0, 1) := by decide +kernel
theorem dXR_begin_96 : decode cXR_begin 96 = .ok (.invokevirtual 138, 3) := by decide +kernel
theorem dXR_begin_99 : decode cXR_begin 99 = .ok (.iinc 4 1, 3) := by decide +kernel
theorem dXR_begin_102 : decode cXR_begin 102 = .ok (.goto (-39), 3) := by decide +kernel
theorem dXR_begin_105 : decode cXR_begin 105 = .ok (.aload_n 0, 1) := by decide +kernel
theorem dXR_begin_106 : decode cXR_begin 106 = .ok (.invokevirtual 150, 3) := by decide +kernel
theorem dXR_begin_109 : decode cXR_begin 109 = .ok (.return_, 1) := by decide +kernel
theorem dXR_control_0 : decode cXR_control 0 = .ok (.aload_n 0, 1) := by decide +kernel
theorem dXR_control_1 : decode cXR_control 1 = .ok (.getfield 67, 3) := by decide +kernel
theorem dXR_control_4 : decode cXR_control 4 = .ok (.ifCond .eq 75, 3) := by decide +kernel
theorem dXR_control_7 : decode cXR_control 7 = .ok (.aload_n 0, 1) := by decide +kernel
theorem dXR_control_8 : decode cXR_control 8 = .ok (.iconst 0, 1) := by decide +kernel
theorem dXR_control_9 : decode cXR_control 9 = .ok (.putfield 67, 3) := by decide +kernel
theorem dXR_control_12 : decode cXR_control 12 = .ok (.aload_n 0, 1) := by decide +kernel
theorem dXR_control_13 : decode cXR_control 13 = .ok (.aload_n 0, 1) := by decide +kernel
theorem dXR_control_14 : decode cXR_control 14 = .ok (.getfield 128, 3) := by decide +kernel
theorem dXR_control_17 : decode cXR_control 17 = .ok (.sipush 16383, 3) := by decide +kernel
theorem dXR_control_20 : decode cXR_control 20 = .ok (.iand, 1) := by decide +kernel
theorem dXR_control_21 : decode cXR_control 21 = .ok (.iload_n 1, 1) := by decide +kernel
theorem dXR_control_22 : decode cXR_control 22 = .ok (.iconst 3, 1) := by decide +kernel
theorem dXR_control_23 : decode cXR_control 23 = .ok (.iand, 1) := by decide +kernel
theorem dXR_control_24 : decode cXR_control 24 = .ok (.bipush 14, 2) := by decide +kernel
theorem dXR_control_26 : decode cXR_control 26 = .ok (.ishl, 1) := by decide +kernel
theorem dXR_control_27 : decode cXR_control 27 = .ok (.ior, 1) := by decide +kernel
theorem dXR_control_28 : decode cXR_control 28 = .ok (.putfield 128, 3) := by decide +kernel
theorem dXR_control_31 : decode cXR_control 31 = .ok (.aload_n 0, 1) := by decide +kernel
theorem dXR_control_32 : decode cXR_control 32 = .ok (.aload_n 0, 1) := by decide +kernel
theorem dXR_control_33 : decode cXR_control 33 = .ok (.getfield 132, 3) := by decide +kernel
theorem dXR_control_36 : decode cXR_control 36 = .ok (.iconst 3, 1) := by decide +kernel
theorem dXR_control_37 : decode cXR_control 37 = .ok (.iand, 1) := by decide +kernel
theorem dXR_control_38 : decode cXR_control 38 = .ok (.iload_n 1, 1) := by decide +kernel
theorem dXR_control_39 : decode cXR_control 39 = .ok (.iconst 4, 1) := by decide +kernel
theorem dXR_control_40 : decode cXR_control 40 = .ok (.ishr, 1) := by decide +kernel
theorem dXR_control_41 : decode cXR_control 41 = .ok (.bipush 15, 2) := by decide +kernel
theorem dXR_control_43 : decode cXR_control 43 = .ok (.iand, 1) := by decide +kernel
theorem dXR_control_44 : decode cXR_control 44 = .ok (.iconst 2, 1) := by decide +kernel
theorem dXR_control_45 : decode cXR_control 45 = .ok (.ishl, 1) := by decide +kernel
theorem dXR_control_46 : decode cXR_control 46 = .ok (.ior, 1) := by decide +kernel
theorem dXR_control_47 : decode cXR_control 47 = .ok (.putfield 132, 3) := by decide +kernel
theorem dXR_control_50 : decode cXR_control 50 = .ok (.aload_n 0, 1) := by decide +kernel
theorem dXR_control_51 : decode cXR_control 51 = .ok (.getfield 132, 3) := by decide +kernel
theorem dXR_control_54 : decode cXR_control 54 = .ok (.bipush 32, 2) := by decide +kernel
theorem dXR_control_56 : decode cXR_control 56 = .ok (.iand, 1) := by decide +kernel
theorem dXR_control_57 : decode cXR_control 57 = .ok (.ifCond .eq 99, 3) := by decide +kernel
theorem dXR_control_60 : decode cXR_control 60 = .ok (.aload_n 0, 1) := by decide +kernel
theorem dXR_control_61 : decode cXR_control 61 = .ok (.getfield 35, 3) := by decide +kernel
theorem dXR_control_64 : decode cXR_control 64 = .ok (.iconst 1, 1) := by decide +kernel
theorem dXR_control_65 : decode cXR_control 65 = .ok (.iaload, 1) := by decide +kernel
theorem dXR_control_66 : decode cXR_control 66 = .ok (.bipush 16, 2) := by decide +kernel
theorem dXR_control_68 : decode cXR_control 68 = .ok (.iand, 1) := by decide +kernel
theorem dXR_control_69 : decode cXR_control 69 = .ok (.ifCond .eq 87, 3) := by decide +kernel
theorem dXR_control_72 : decode cXR_control 72 = .ok (.aload_n 0, 1) := by decide +kernel
theorem dXR_control_73 : decode cXR_control 73 = .ok (.invokevirtual 159, 3) := by decide +kernel
theorem dXR_control_76 : decode cXR_control 76 = .ok (.goto 80, 3) := by decide +kernel
theorem dXR_control_79 : decode cXR_control 79 = .ok (.iload_n 1, 1) := by decide +kernel
theorem dXR_control_80 : decode cXR_control 80 = .ok (.bipush 14, 2) := by decide +kernel
theorem dXR_control_82 : decode cXR_control 82 = .ok (.ishr, 1) := by decide +kernel
theorem dXR_control_83 : decode cXR_control 83 = .ok (.iconst 2, 1) := by decide +kernel
theorem dXR_control_84 : decode cXR_control 84 = .ok (.if_icmp .ne 34, 3) := by decide +kernel
theorem dXR_control_87 : decode cXR_control 87 = .ok (.aload_n 0, 1) := by decide +kernel
theorem dXR_control_88 : decode cXR_control 88 = .ok (.getfield 35, 3) := by decide +kernel
theorem dXR_control_91 : decode cXR_control 91 = .ok (.iload_n 1, 1) := by decide +kernel
theorem dXR_control_92 : decode cXR_control 92 = .ok (.bipush 8, 2) := by decide +kernel
theorem dXR_control_94 : decode cXR_control 94 = .ok (.ishr, 1) := by decide +kernel
theorem dXR_control_95 : decode cXR_control 95 = .ok (.bipush 15, 2) := by decide +kernel
theorem dXR_control_97 : decode cXR_control 97 = .ok (.iand, 1) := by decide +kernel
theorem dXR_control_98 : decode cXR_control 98 = .ok (.iload_n 1, 1) := by decide +kernel
theorem dXR_control_99 : decode cXR_control 99 = .ok (.sipush 255, 3) := by decide +kernel
theorem dXR_control_102 : decode cXR_control 102 = .ok (.iand, 1) := by decide +kernel
theorem dXR_control_103 : decode cXR_control 103 = .ok (.iastore, 1) := by decide +kernel
theorem dXR_control_104 : decode cXR_control 104 = .ok (.aload_n 0, 1) := by decide +kernel
theorem dXR_control_105 : decode cXR_control 105 = .ok (.aload_n 0, 1) := by decide +kernel
theorem dXR_control_106 : decode cXR_control 106 = .ok (.getfield 132, 3) := by decide +kernel
theorem dXR_control_109 : decode cXR_control 109 = .ok (.bipush 60, 2) := by decide +kernel
theorem dXR_control_111 : decode cXR_control 111 = .ok (.iand, 1) := by decide +kernel
theorem dXR_control_112 : decode cXR_control 112 = .ok (.putfield 132, 3) := by decide +kernel
theorem dXR_control_115 : decode cXR_control 115 = .ok (.goto 41, 3) := by decide +kernel
theorem dXR_control_118 : decode cXR_control 118 = .ok (.aload_n 0, 1) := by decide +kernel
theorem dXR_control_119 : decode cXR_control 119 = .ok (.aload_n 0, 1) := by decide +kernel
theorem dXR_control_120 : decode cXR_control 120 = .ok (.getfield 128, 3) := by decide +kernel
theorem dXR_control_123 : decode cXR_control 123 = .ok (.ldc 162, 2) := by decide +kernel
theorem dXR_control_125 : decode cXR_control 125 = .ok (.iand, 1) := by decide +kernel
theorem dXR_control_126 : decode cXR_control 126 = .ok (.iload_n 1, 1) := by decide +kernel
theorem dXR_control_127 : decode cXR_control 127 = .ok (.sipush 16383, 3) := by decide +kernel
theorem dXR_control_130 : decode cXR_control 130 = .ok (.iand, 1) := by decide +kernel
theorem dXR_control_131 : decode cXR_control 131 = .ok (.ior, 1) := by decide +kernel
theorem dXR_control_132 : decode cXR_control 132 = .ok (.putfield 128, 3) := by decide +kernel
theorem dXR_control_135 : decode cXR_control 135 = .ok (.aload_n 0, 1) := by decide +kernel
theorem dXR_control_136 : decode cXR_control 136 = .ok (.aload_n 0, 1) := by decide +kernel
theorem dXR_control_137 : decode cXR_control 137 = .ok (.getfield 132, 3) := by decide +kernel
theorem dXR_control_140 : decode cXR_control 140 = .ok (.bipush 60, 2) := by decide +kernel
theorem dXR_control_142 : decode cXR_control 142 = .ok (.iand, 1) := by decide +kernel
theorem dXR_control_143 : decode cXR_control 143 = .ok (.iload_n 1, 1) := by decide +kernel
theorem dXR_control_144 : decode cXR_control 144 = .ok (.bipush 14, 2) := by decide +kernel
theorem dXR_control_146 : decode cXR_control 146 = .ok (.ishr, 1) := by decide +kernel
theorem dXR_control_147 : decode cXR_control 147 = .ok (.ior, 1) := by decide +kernel
theorem dXR_control_148 : decode cXR_control 148 = .ok (.putfield 132, 3) := by decide +kernel
theorem dXR_control_151 : decode cXR_control 151 = .ok (.aload_n 0, 1) := by decide +kernel
theorem dXR_control_152 : decode cXR_control 152 = .ok (.iconst 1, 1) := by decide +kernel
theorem dXR_control_153 : decode cXR_control 153 = .ok (.putfield 67, 3) := by decide +kernel
theorem dXR_control_156 : decode cXR_control 156 = .ok (.return_, 1) := by decide +kernel
theorem dXR_moveWord_0 : decode cXR_moveWord 0 = .ok (.aload_n 0, 1) := by decide +kernel
theorem dXR_moveWord_1 : decode cXR_moveWord 1 = .ok (.aload_n 0, 1) := by decide +kernel
theorem dXR_moveWord_2 : decode cXR_moveWord 2 = .ok (.getfield 156, 3) := by decide +kernel
theorem dXR_moveWord_5 : decode cXR_moveWord 5 = .ok (.sipush 768, 3) := by decide +kernel
theorem dXR_moveWord_8 : decode cXR_moveWord 8 = .ok (.if_icmp .ge 14, 3) := by decide +kernel
theorem dXR_moveWord_11 : decode cXR_moveWord 11 = .ok (.aload_n 0, 1) := by decide +kernel
theorem dXR_moveWord_12 : decode cXR_moveWord 12 = .ok (.aload_n 0, 1) := by decide +kernel
theorem dXR_moveWord_13 : decode cXR_moveWord 13 = .ok (.getfield 156, 3) := by decide +kernel
theorem dXR_moveWord_16 : decode cXR_moveWord 16 = .ok (.invokevirtual 76, 3) := by decide +kernel
theorem dXR_moveWord_19 : decode cXR_moveWord 19 = .ok (.goto 4, 3) := by decide +kernel
theorem dXR_moveWord_22 : decode cXR_moveWord 22 = .ok (.iconst 0, 1) := by decide +kernel
theorem dXR_moveWord_23 : decode cXR_moveWord 23 = .ok (.invokevirtual 141, 3) := by decide +kernel
theorem dXR_moveWord_26 : decode cXR_moveWord 26 = .ok (.aload_n 0, 1) := by decide +kernel
theorem dXR_moveWord_27 : decode cXR_moveWord 27 = .ok (.aload_n 0, 1) := by decide +kernel
theorem dXR_moveWord_28 : decode cXR_moveWord 28 = .ok (.getfield 156, 3) := by decide +kernel
theorem dXR_moveWord_31 : decode cXR_moveWord 31 = .ok (.sipush 1024, 3) := by decide +kernel
theorem dXR_moveWord_34 : decode cXR_moveWord 34 = .ok (.idiv, 1) := by decide +kernel
theorem dXR_moveWord_35 : decode cXR_moveWord 35 = .ok (.sipush 1024, 3) := by decide +kernel
theorem dXR_moveWord_38 : decode cXR_moveWord 38 = .ok (.imul, 1) := by decide +kernel
theorem dXR_moveWord_39 : decode cXR_moveWord 39 = .ok (.aload_n 0, 1) := by decide +kernel
theorem dXR_moveWord_40 : decode cXR_moveWord 40 = .ok (.getfield 156, 3) := by decide +kernel
theorem dXR_moveWord_43 : decode cXR_moveWord 43 = .ok (.iconst 2, 1) := by decide +kernel
theorem dXR_moveWord_44 : decode cXR_moveWord 44 = .ok (.iadd, 1) := by decide +kernel
theorem dXR_moveWord_45 : decode cXR_moveWord 45 = .ok (.sipush 1024, 3) := by decide +kernel
theorem dXR_moveWord_48 : decode cXR_moveWord 48 = .ok (.irem, 1) := by decide +kernel
theorem dXR_moveWord_49 : decode cXR_moveWord 49 = .ok (.iadd, 1) := by decide +kernel
theorem dXR_moveWord_50 : decode cXR_moveWord 50 = .ok (.putfield 156, 3) := by decide +kernel
theorem dXR_moveWord_53 : decode cXR_moveWord 53 = .ok (.aload_n 0, 1) := by decide +kernel
theorem dXR_moveWord_54 : decode cXR_moveWord 54 = .ok (.dup, 1) := by decide +kernel
theorem dXR_moveWord_55 : decode cXR_moveWord 55 = .ok (.getfield 51, 3) := by decide +kernel
theorem dXR_moveWord_58 : decode cXR_moveWord 58 = .ok (.iconst 1, 1) := by decide +kernel
theorem dXR_moveWord_59 : decode cXR_moveWord 59 = .ok (.isub, 1) := by decide +kernel
theorem dXR_moveWord_60 : decode cXR_moveWord 60 = .ok (.putfield 51, 3) := by decide +kernel
theorem dXR_moveWord_63 : decode cXR_moveWord 63 = .ok (.aload_n 0, 1) := by decide +kernel
theorem dXR_moveWord_64 : decode cXR_moveWord 64 = .ok (.getfield 51, 3) := by decide +kernel
theorem dXR_moveWord_67 : decode cXR_moveWord 67 = .ok (.ifCond .ne 7, 3) := by decide +kernel
theorem dXR_moveWord_70 : decode cXR_moveWord 70 = .ok (.aload_n 0, 1) := by decide +kernel
theorem dXR_moveWord_71 : decode cXR_moveWord 71 = .ok (.invokevirtual 150, 3) := by decide +kernel
theorem dXR_moveWord_74 : decode cXR_moveWord 74 = .ok (.return_, 1) := by decide +kernel
theorem dXR_flagWord_0 : decode cXR_flagWord 0 = .ok (.sipush 256, 3) := by decide +kernel
theorem dXR_flagWord_3 : decode cXR_flagWord 3 = .ok (.aload_n 0, 1) := by decide +kernel
theorem dXR_flagWord_4 : decode cXR_flagWord 4 = .ok (.getfield 163, 3) := by decide +kernel
theorem dXR_flagWord_7 : decode cXR_flagWord 7 = .ok (.imul, 1) := by decide +kernel
theorem dXR_flagWord_8 : decode cXR_flagWord 8 = .ok (.aload_n 0, 1) := by decide +kernel
theorem dXR_flagWord_9 : decode cXR_flagWord 9 = .ok (.getfield 166, 3) := by decide +kernel
theorem dXR_flagWord_12 : decode cXR_flagWord 12 = .ok (.ifCond .eq 8, 3) := by decide +kernel
theorem dXR_flagWord_15 : decode cXR_flagWord 15 = .ok (.bipush 8, 2) := by decide +kernel
theorem dXR_flagWord_17 : decode cXR_flagWord 17 = .ok (.goto 4, 3) := by decide +kernel
theorem dXR_flagWord_20 : decode cXR_flagWord 20 = .ok (.iconst 0, 1) := by decide +kernel
theorem dXR_flagWord_21 : decode cXR_flagWord 21 = .ok (.iadd, 1) := by decide +kernel
theorem dXR_flagWord_22 : decode cXR_flagWord 22 = .ok (.aload_n 0, 1) := by decide +kernel
theorem dXR_flagWord_23 : decode cXR_flagWord 23 = .ok (.getfield 169, 3) := by decide +kernel
theorem dXR_flagWord_26 : decode cXR_flagWord 26 = .ok (.ifCond .eq 7, 3) := by decide +kernel
theorem dXR_flagWord_29 : decode cXR_flagWord 29 = .ok (.iconst 4, 1) := by decide +kernel
theorem dXR_flagWord_30 : decode cXR_flagWord 30 = .ok (.goto 4, 3) := by decide +kernel
theorem dXR_flagWord_33 : decode cXR_flagWord 33 = .ok (.iconst 0, 1) := by decide +kernel
theorem dXR_flagWord_34 : decode cXR_flagWord 34 = .ok (.iadd, 1) := by decide +kernel
theorem dXR_flagWord_35 : decode cXR_flagWord 35 = .ok (.aload_n 0, 1) := by decide +kernel
theorem dXR_flagWord_36 : decode cXR_flagWord 36 = .ok (.getfield 172, 3) := by decide +kernel
theorem dXR_flagWord_39 : decode cXR_flagWord 39 = .ok (.ifCond .eq 7, 3) := by decide +kernel
theorem dXR_flagWord_42 : decode cXR_flagWord 42 = .ok (.iconst 2, 1) := by decide +kernel
theorem dXR_flagWord_43 : decode cXR_flagWord 43 = .ok (.goto 4, 3) := by decide +kernel
theorem dXR_flagWord_46 : decode cXR_flagWord 46 = .ok (.iconst 0, 1) := by decide +kernel
theorem dXR_flagWord_47 : decode cXR_flagWord 47 = .ok (.iadd, 1) := by decide +kernel
theorem dXR_flagWord_48 : decode cXR_flagWord 48 = .ok (.aload_n 0, 1) := by decide +kernel
theorem dXR_flagWord_49 : decode cXR_flagWord 49 = .ok (.getfield 175, 3) := by decide +kernel
theorem dXR_flagWord_52 : decode cXR_flagWord 52 = .ok (.ifCond .eq 7, 3) := by decide +kernel
theorem dXR_flagWord_55 : decode cXR_flagWord 55 = .ok (.iconst 1, 1) := by decide +kernel
theorem dXR_flagWord_56 : decode cXR_flagWord 56 = .ok (.goto 4, 3) := by decide +kernel
theorem dXR_flagWord_59 : decode cXR_flagWord 59 = .ok (.iconst 0, 1) := by decide +kernel
theorem dXR_flagWord_60 : decode cXR_flagWord 60 = .ok (.iadd, 1) := by decide +kernel
theorem dXR_flagWord_61 : decode cXR_flagWord 61 = .ok (.ireturn, 1) := by decide +kernel
theorem dXR_setFlagWord_0 : decode cXR_setFlagWord 0 = .ok (.aload_n 0, 1) := by decide +kernel
theorem dXR_setFlagWord_1 : decode cXR_setFlagWord 1 = .ok (.iload_n 1, 1) := by decide +kernel
theorem dXR_setFlagWord_2 : decode cXR_setFlagWord 2 = .ok (.bipush 8, 2) := by decide +kernel
theorem dXR_setFlagWord_4 : decode cXR_setFlagWord 4 = .ok (.ishr, 1) := by decide +kernel
theorem dXR_setFlagWord_5 : decode cXR_setFlagWord 5 = .ok (.bipush 7, 2) := by decide +kernel
theorem dXR_setFlagWord_7 : decode cXR_setFlagWord 7 = .ok (.iand, 1) := by decide +kernel
theorem dXR_setFlagWord_8 : decode cXR_setFlagWord 8 = .ok (.putfield 163, 3) := by decide +kernel
theorem dXR_setFlagWord_11 : decode cXR_setFlagWord 11 = .ok (.aload_n 0, 1) := by decide +kernel
theorem dXR_setFlagWord_12 : decode cXR_setFlagWord 12 = .ok (.iload_n 1, 1) := by decide +kernel
theorem dXR_setFlagWord_13 : decode cXR_setFlagWord 13 = .ok (.bipush 8, 2) := by decide +kernel
theorem dXR_setFlagWord_15 : decode cXR_setFlagWord 15 = .ok (.iand, 1) := by decide +kernel
theorem dXR_setFlagWord_16 : decode cXR_setFlagWord 16 = .ok (.ifCond .eq 7, 3) := by decide +kernel
theorem dXR_setFlagWord_19 : decode cXR_setFlagWord 19 = .ok (.iconst 1, 1) := by decide +kernel
theorem dXR_setFlagWord_20 : decode cXR_setFlagWord 20 = .ok (.goto 4, 3) := by decide +kernel
theorem dXR_setFlagWord_23 : decode cXR_setFlagWord 23 = .ok (.iconst 0, 1) := by decide +kernel
theorem dXR_setFlagWord_24 : decode cXR_setFlagWord 24 = .ok (.putfield 166, 3) := by decide +kernel
theorem dXR_setFlagWord_27 : decode cXR_setFlagWord 27 = .ok (.aload_n 0, 1) := by decide +kernel
theorem dXR_setFlagWord_28 : decode cXR_setFlagWord 28 = .ok (.iload_n 1, 1) := by decide +kernel
theorem dXR_setFlagWord_29 : decode cXR_setFlagWord 29 = .ok (.iconst 4, 1) := by decide +kernel
theorem dXR_setFlagWord_30 : decode cXR_setFlagWord 30 = .ok (.iand, 1) := by decide +kernel
theorem dXR_setFlagWord_31 : decode cXR_setFlagWord 31 = .ok (.ifCond .eq 7, 3) := by decide +kernel
theorem dXR_setFlagWord_34 : decode cXR_setFlagWord 34 = .ok (.iconst 1, 1) := by decide +kernel
theorem dXR_setFlagWord_35 : decode cXR_setFlagWord 35 = .ok (.goto 4, 3) := by decide +kernel
theorem dXR_setFlagWord_38 : decode cXR_setFlagWord 38 = .ok (.iconst 0, 1) := by decide +kernel
theorem dXR_setFlagWord_39 : decode cXR_setFlagWord 39 = .ok (.putfield 169, 3) := by decide +kernel
theorem dXR_setFlagWord_42 : decode cXR_setFlagWord 42 = .ok (.aload_n 0, 1) := by decide +kernel
theorem dXR_setFlagWord_43 : decode cXR_setFlagWord 43 = .ok (.iload_n 1, 1) := by decide +kernel
theorem dXR_setFlagWord_44 : decode cXR_setFlagWord 44 = .ok (.iconst 2, 1) := by decide +kernel
theorem dXR_setFlagWord_45 : decode cXR_setFlagWord 45 = .ok (.iand, 1) := by decide +kernel
theorem dXR_setFlagWord_46 : decode cXR_setFlagWord 46 = .ok (.ifCond .eq 7, 3) := by decide +kernel
theorem dXR_setFlagWord_49 : decode cXR_setFlagWord 49 = .ok (.iconst 1, 1) := by decide +kernel
theorem dXR_setFlagWord_50 : decode cXR_setFlagWord 50 = .ok (.goto 4, 3) := by decide +kernel
theorem dXR_setFlagWord_53 : decode cXR_setFlagWord 53 = .ok (.iconst 0, 1) := by decide +kernel
theorem dXR_setFlagWord_54 : decode cXR_setFlagWord 54 = .ok (.putfield 172, 3) := by decide +kernel
theorem dXR_setFlagWord_57 : decode cXR_setFlagWord 57 = .ok (.aload_n 0, 1) := by decide +kernel
theorem dXR_setFlagWord_58 : decode cXR_setFlagWord 58 = .ok (.iload_n 1, 1) := by decide +kernel
theorem dXR_setFlagWord_59 : decode cXR_setFlagWord 59 = .ok (.iconst 1, 1) := by decide +kernel
theorem dXR_setFlagWord_60 : decode cXR_setFlagWord 60 = .ok (.iand, 1) := by decide +kernel
theorem dXR_setFlagWord_61 : decode cXR_setFlagWord 61 = .ok (.ifCond .eq 7, 3) := by decide +kernel
theorem dXR_setFlagWord_64 : decode cXR_setFlagWord 64 = .ok (.iconst 1, 1) := by decide +kernel
theorem dXR_setFlagWord_65 : decode cXR_setFlagWord 65 = .ok (.goto 4, 3) := by decide +kernel
theorem dXR_setFlagWord_68 : decode cXR_setFlagWord 68 = .ok (.iconst 0, 1) := by decide +kernel
theorem dXR_setFlagWord_69 : decode cXR_setFlagWord 69 = .ok (.putfield 175, 3) := by decide +kernel
theorem dXR_setFlagWord_72 : decode cXR_setFlagWord 72 = .ok (.return_, 1) := by decide +kernel
theorem dXR_testWord_0 : decode cXR_testWord 0 = .ok (.aload_n 0, 1) := by decide +kernel
theorem dXR_testWord_1 : decode cXR_testWord 1 = .ok (.iload_n 1, 1) := by decide +kernel
theorem dXR_testWord_2 : decode cXR_testWord 2 = .ok (.ldc 178, 2) := by decide +kernel
theorem dXR_testWord_4 : decode cXR_testWord 4 = .ok (.if_icmp .lt 7, 3) := by decide +kernel
theorem dXR_testWord_7 : decode cXR_testWord 7 = .ok (.iconst 1, 1) := by decide +kernel
theorem dXR_testWord_8 : decode cXR_testWord 8 = .ok (.goto 4, 3) := by decide +kernel
theorem dXR_testWord_11 : decode cXR_testWord 11 = .ok (.iconst 0, 1) := by decide +kernel
end
section
theorem dXR_testWord_12 : decode cXR_testWord 12 = .ok (.putfield 166, 3) := by decide +kernel
theorem dXR_testWord_15 : decode cXR_testWord 15 = .ok (.aload_n 0, 1) := by decide +kernel
theorem dXR_testWord_16 : decode cXR_testWord 16 = .ok (.iload_n 1, 1) := by decide +kernel
theorem dXR_testWord_17 : decode cXR_testWord 17 = .ok (.ifCond .ne 7, 3) := by decide +kernel
theorem dXR_testWord_20 : decode cXR_testWord 20 = .ok (.iconst 1, 1) := by decide +kernel
theorem dXR_testWord_21 : decode cXR_testWord 21 = .ok (.goto 4, 3) := by decide +kernel
theorem dXR_testWord_24 : decode cXR_testWord 24 = .ok (.iconst 0, 1) := by decide +kernel
theorem dXR_testWord_25 : decode cXR_testWord 25 = .ok (.putfield 169, 3) := by decide +kernel
theorem dXR_testWord_28 : decode cXR_testWord 28 = .ok (.aload_n 0, 1) := by decide +kernel
theorem dXR_testWord_29 : decode cXR_testWord 29 = .ok (.iconst 0, 1) := by decide +kernel
theorem dXR_testWord_30 : decode cXR_testWord 30 = .ok (.putfield 172, 3) := by decide +kernel
theorem dXR_testWord_33 : decode cXR_testWord 33 = .ok (.aload_n 0, 1) := by decide +kernel
theorem dXR_testWord_34 : decode cXR_testWord 34 = .ok (.iconst 0, 1) := by decide +kernel
theorem dXR_testWord_35 : decode cXR_testWord 35 = .ok (.putfield 175, 3) := by decide +kernel
theorem dXR_testWord_38 : decode cXR_testWord 38 = .ok (.return_, 1) := by decide +kernel
theorem dXR_setLow_0 : decode cXR_setLow 0 = .ok (.aload_n 0, 1) := by decide +kernel
theorem dXR_setLow_1 : decode cXR_setLow 1 = .ok (.getfield 16, 3) := by decide +kernel
theorem dXR_setLow_4 : decode cXR_setLow 4 = .ok (.iload_n 1, 1) := by decide +kernel
theorem dXR_setLow_5 : decode cXR_setLow 5 = .ok (.aload_n 0, 1) := by decide +kernel
theorem dXR_setLow_6 : decode cXR_setLow 6 = .ok (.getfield 16, 3) := by decide +kernel
theorem dXR_setLow_9 : decode cXR_setLow 9 = .ok (.iload_n 1, 1) := by decide +kernel
theorem dXR_setLow_10 : decode cXR_setLow 10 = .ok (.iaload, 1) := by decide +kernel
theorem dXR_setLow_11 : decode cXR_setLow 11 = .ok (.ldc 179, 2) := by decide +kernel
theorem dXR_setLow_13 : decode cXR_setLow 13 = .ok (.iand, 1) := by decide +kernel
theorem dXR_setLow_14 : decode cXR_setLow 14 = .ok (.iload_n 2, 1) := by decide +kernel
theorem dXR_setLow_15 : decode cXR_setLow 15 = .ok (.ior, 1) := by decide +kernel
theorem dXR_setLow_16 : decode cXR_setLow 16 = .ok (.iastore, 1) := by decide +kernel
theorem dXR_setLow_17 : decode cXR_setLow 17 = .ok (.return_, 1) := by decide +kernel
theorem dXR_fetch_0 : decode cXR_fetch 0 = .ok (.aload_n 0, 1) := by decide +kernel
theorem dXR_fetch_1 : decode cXR_fetch 1 = .ok (.aload_n 0, 1) := by decide +kernel
theorem dXR_fetch_2 : decode cXR_fetch 2 = .ok (.getfield 180, 3) := by decide +kernel
theorem dXR_fetch_5 : decode cXR_fetch 5 = .ok (.invokevirtual 76, 3) := by decide +kernel
theorem dXR_fetch_8 : decode cXR_fetch 8 = .ok (.istore_n 1, 1) := by decide +kernel
theorem dXR_fetch_9 : decode cXR_fetch 9 = .ok (.aload_n 0, 1) := by decide +kernel
theorem dXR_fetch_10 : decode cXR_fetch 10 = .ok (.aload_n 0, 1) := by decide +kernel
theorem dXR_fetch_11 : decode cXR_fetch 11 = .ok (.getfield 180, 3) := by decide +kernel
theorem dXR_fetch_14 : decode cXR_fetch 14 = .ok (.iconst 2, 1) := by decide +kernel
theorem dXR_fetch_15 : decode cXR_fetch 15 = .ok (.iadd, 1) := by decide +kernel
theorem dXR_fetch_16 : decode cXR_fetch 16 = .ok (.ldc 131, 2) := by decide +kernel
theorem dXR_fetch_18 : decode cXR_fetch 18 = .ok (.iand, 1) := by decide +kernel
theorem dXR_fetch_19 : decode cXR_fetch 19 = .ok (.putfield 180, 3) := by decide +kernel
theorem dXR_fetch_22 : decode cXR_fetch 22 = .ok (.iload_n 1, 1) := by decide +kernel
theorem dXR_fetch_23 : decode cXR_fetch 23 = .ok (.ireturn, 1) := by decide +kernel
theorem dXR_exception_0 : decode cXR_exception 0 = .ok (.aload_n 0, 1) := by decide +kernel
theorem dXR_exception_1 : decode cXR_exception 1 = .ok (.aload_n 0, 1) := by decide +kernel
theorem dXR_exception_2 : decode cXR_exception 2 = .ok (.getfield 183, 3) := by decide +kernel
theorem dXR_exception_5 : decode cXR_exception 5 = .ok (.bipush 6, 2) := by decide +kernel
theorem dXR_exception_7 : decode cXR_exception 7 = .ok (.isub, 1) := by decide +kernel
theorem dXR_exception_8 : decode cXR_exception 8 = .ok (.ldc 131, 2) := by decide +kernel
theorem dXR_exception_10 : decode cXR_exception 10 = .ok (.iand, 1) := by decide +kernel
theorem dXR_exception_11 : decode cXR_exception 11 = .ok (.aload_n 0, 1) := by decide +kernel
theorem dXR_exception_12 : decode cXR_exception 12 = .ok (.invokevirtual 186, 3) := by decide +kernel
theorem dXR_exception_15 : decode cXR_exception 15 = .ok (.invokevirtual 189, 3) := by decide +kernel
theorem dXR_exception_18 : decode cXR_exception 18 = .ok (.aload_n 0, 1) := by decide +kernel
theorem dXR_exception_19 : decode cXR_exception 19 = .ok (.aload_n 0, 1) := by decide +kernel
theorem dXR_exception_20 : decode cXR_exception 20 = .ok (.getfield 183, 3) := by decide +kernel
theorem dXR_exception_23 : decode cXR_exception 23 = .ok (.iconst 4, 1) := by decide +kernel
theorem dXR_exception_24 : decode cXR_exception 24 = .ok (.isub, 1) := by decide +kernel
theorem dXR_exception_25 : decode cXR_exception 25 = .ok (.ldc 131, 2) := by decide +kernel
theorem dXR_exception_27 : decode cXR_exception 27 = .ok (.iand, 1) := by decide +kernel
theorem dXR_exception_28 : decode cXR_exception 28 = .ok (.iconst 0, 1) := by decide +kernel
theorem dXR_exception_29 : decode cXR_exception 29 = .ok (.invokevirtual 189, 3) := by decide +kernel
theorem dXR_exception_32 : decode cXR_exception 32 = .ok (.aload_n 0, 1) := by decide +kernel
theorem dXR_exception_33 : decode cXR_exception 33 = .ok (.aload_n 0, 1) := by decide +kernel
theorem dXR_exception_34 : decode cXR_exception 34 = .ok (.getfield 183, 3) := by decide +kernel
theorem dXR_exception_37 : decode cXR_exception 37 = .ok (.iconst 2, 1) := by decide +kernel
theorem dXR_exception_38 : decode cXR_exception 38 = .ok (.isub, 1) := by decide +kernel
theorem dXR_exception_39 : decode cXR_exception 39 = .ok (.ldc 131, 2) := by decide +kernel
theorem dXR_exception_41 : decode cXR_exception 41 = .ok (.iand, 1) := by decide +kernel
theorem dXR_exception_42 : decode cXR_exception 42 = .ok (.aload_n 0, 1) := by decide +kernel
theorem dXR_exception_43 : decode cXR_exception 43 = .ok (.getfield 180, 3) := by decide +kernel
theorem dXR_exception_46 : decode cXR_exception 46 = .ok (.invokevirtual 189, 3) := by decide +kernel
theorem dXR_exception_49 : decode cXR_exception 49 = .ok (.aload_n 0, 1) := by decide +kernel
theorem dXR_exception_50 : decode cXR_exception 50 = .ok (.aload_n 0, 1) := by decide +kernel
theorem dXR_exception_51 : decode cXR_exception 51 = .ok (.getfield 183, 3) := by decide +kernel
theorem dXR_exception_54 : decode cXR_exception 54 = .ok (.bipush 6, 2) := by decide +kernel
theorem dXR_exception_56 : decode cXR_exception 56 = .ok (.isub, 1) := by decide +kernel
theorem dXR_exception_57 : decode cXR_exception 57 = .ok (.ldc 131, 2) := by decide +kernel
theorem dXR_exception_59 : decode cXR_exception 59 = .ok (.iand, 1) := by decide +kernel
theorem dXR_exception_60 : decode cXR_exception 60 = .ok (.putfield 183, 3) := by decide +kernel
theorem dXR_exception_63 : decode cXR_exception 63 = .ok (.aload_n 0, 1) := by decide +kernel
theorem dXR_exception_64 : decode cXR_exception 64 = .ok (.aload_n 0, 1) := by decide +kernel
theorem dXR_exception_65 : decode cXR_exception 65 = .ok (.iconst 4, 1) := by decide +kernel
theorem dXR_exception_66 : decode cXR_exception 66 = .ok (.iload_n 1, 1) := by decide +kernel
theorem dXR_exception_67 : decode cXR_exception 67 = .ok (.imul, 1) := by decide +kernel
theorem dXR_exception_68 : decode cXR_exception 68 = .ok (.iconst 2, 1) := by decide +kernel
theorem dXR_exception_69 : decode cXR_exception 69 = .ok (.iadd, 1) := by decide +kernel
theorem dXR_exception_70 : decode cXR_exception 70 = .ok (.invokevirtual 76, 3) := by decide +kernel
theorem dXR_exception_73 : decode cXR_exception 73 = .ok (.putfield 180, 3) := by decide +kernel
theorem dXR_exception_76 : decode cXR_exception 76 = .ok (.return_, 1) := by decide +kernel
theorem dXR_add_0 : decode cXR_add 0 = .ok (.iload_n 3, 1) := by decide +kernel
theorem dXR_add_1 : decode cXR_add 1 = .ok (.ifCond .eq 9, 3) := by decide +kernel
theorem dXR_add_4 : decode cXR_add 4 = .ok (.iload_n 1, 1) := by decide +kernel
theorem dXR_add_5 : decode cXR_add 5 = .ok (.iload_n 2, 1) := by decide +kernel
theorem dXR_add_6 : decode cXR_add 6 = .ok (.isub, 1) := by decide +kernel
theorem dXR_add_7 : decode cXR_add 7 = .ok (.goto 6, 3) := by decide +kernel
theorem dXR_add_10 : decode cXR_add 10 = .ok (.iload_n 1, 1) := by decide +kernel
theorem dXR_add_11 : decode cXR_add 11 = .ok (.iload_n 2, 1) := by decide +kernel
theorem dXR_add_12 : decode cXR_add 12 = .ok (.iadd, 1) := by decide +kernel
theorem dXR_add_13 : decode cXR_add 13 = .ok (.istore 4, 2) := by decide +kernel
theorem dXR_add_15 : decode cXR_add 15 = .ok (.iload 4, 2) := by decide +kernel
theorem dXR_add_17 : decode cXR_add 17 = .ok (.ldc 131, 2) := by decide +kernel
theorem dXR_add_19 : decode cXR_add 19 = .ok (.iand, 1) := by decide +kernel
theorem dXR_add_20 : decode cXR_add 20 = .ok (.istore 5, 2) := by decide +kernel
theorem dXR_add_22 : decode cXR_add 22 = .ok (.iload_n 3, 1) := by decide +kernel
theorem dXR_add_23 : decode cXR_add 23 = .ok (.ifCond .eq 14, 3) := by decide +kernel
theorem dXR_add_26 : decode cXR_add 26 = .ok (.iload_n 1, 1) := by decide +kernel
theorem dXR_add_27 : decode cXR_add 27 = .ok (.iload_n 2, 1) := by decide +kernel
theorem dXR_add_28 : decode cXR_add 28 = .ok (.ixor, 1) := by decide +kernel
theorem dXR_add_29 : decode cXR_add 29 = .ok (.iload_n 1, 1) := by decide +kernel
theorem dXR_add_30 : decode cXR_add 30 = .ok (.iload 5, 2) := by decide +kernel
theorem dXR_add_32 : decode cXR_add 32 = .ok (.ixor, 1) := by decide +kernel
theorem dXR_add_33 : decode cXR_add 33 = .ok (.iand, 1) := by decide +kernel
theorem dXR_add_34 : decode cXR_add 34 = .ok (.goto 13, 3) := by decide +kernel
theorem dXR_add_37 : decode cXR_add 37 = .ok (.iload_n 1, 1) := by decide +kernel
theorem dXR_add_38 : decode cXR_add 38 = .ok (.iload_n 2, 1) := by decide +kernel
theorem dXR_add_39 : decode cXR_add 39 = .ok (.ixor, 1) := by decide +kernel
theorem dXR_add_40 : decode cXR_add 40 = .ok (.iconst (-1), 1) := by decide +kernel
theorem dXR_add_41 : decode cXR_add 41 = .ok (.ixor, 1) := by decide +kernel
theorem dXR_add_42 : decode cXR_add 42 = .ok (.iload_n 1, 1) := by decide +kernel
theorem dXR_add_43 : decode cXR_add 43 = .ok (.iload 5, 2) := by decide +kernel
theorem dXR_add_45 : decode cXR_add 45 = .ok (.ixor, 1) := by decide +kernel
theorem dXR_add_46 : decode cXR_add 46 = .ok (.iand, 1) := by decide +kernel
theorem dXR_add_47 : decode cXR_add 47 = .ok (.istore 6, 2) := by decide +kernel
theorem dXR_add_49 : decode cXR_add 49 = .ok (.aload_n 0, 1) := by decide +kernel
theorem dXR_add_50 : decode cXR_add 50 = .ok (.iload 5, 2) := by decide +kernel
theorem dXR_add_52 : decode cXR_add 52 = .ok (.ldc 178, 2) := by decide +kernel
theorem dXR_add_54 : decode cXR_add 54 = .ok (.if_icmp .lt 7, 3) := by decide +kernel
theorem dXR_add_57 : decode cXR_add 57 = .ok (.iconst 1, 1) := by decide +kernel
theorem dXR_add_58 : decode cXR_add 58 = .ok (.goto 4, 3) := by decide +kernel
theorem dXR_add_61 : decode cXR_add 61 = .ok (.iconst 0, 1) := by decide +kernel
theorem dXR_add_62 : decode cXR_add 62 = .ok (.putfield 166, 3) := by decide +kernel
theorem dXR_add_65 : decode cXR_add 65 = .ok (.aload_n 0, 1) := by decide +kernel
theorem dXR_add_66 : decode cXR_add 66 = .ok (.iload 5, 2) := by decide +kernel
theorem dXR_add_68 : decode cXR_add 68 = .ok (.ifCond .ne 7, 3) := by decide +kernel
theorem dXR_add_71 : decode cXR_add 71 = .ok (.iconst 1, 1) := by decide +kernel
theorem dXR_add_72 : decode cXR_add 72 = .ok (.goto 4, 3) := by decide +kernel
theorem dXR_add_75 : decode cXR_add 75 = .ok (.iconst 0, 1) := by decide +kernel
theorem dXR_add_76 : decode cXR_add 76 = .ok (.putfield 169, 3) := by decide +kernel
theorem dXR_add_79 : decode cXR_add 79 = .ok (.aload_n 0, 1) := by decide +kernel
theorem dXR_add_80 : decode cXR_add 80 = .ok (.iload 6, 2) := by decide +kernel
theorem dXR_add_82 : decode cXR_add 82 = .ok (.ldc 178, 2) := by decide +kernel
theorem dXR_add_84 : decode cXR_add 84 = .ok (.iand, 1) := by decide +kernel
theorem dXR_add_85 : decode cXR_add 85 = .ok (.ifCond .eq 7, 3) := by decide +kernel
theorem dXR_add_88 : decode cXR_add 88 = .ok (.iconst 1, 1) := by decide +kernel
theorem dXR_add_89 : decode cXR_add 89 = .ok (.goto 4, 3) := by decide +kernel
theorem dXR_add_92 : decode cXR_add 92 = .ok (.iconst 0, 1) := by decide +kernel
theorem dXR_add_93 : decode cXR_add 93 = .ok (.putfield 172, 3) := by decide +kernel
theorem dXR_add_96 : decode cXR_add 96 = .ok (.aload_n 0, 1) := by decide +kernel
theorem dXR_add_97 : decode cXR_add 97 = .ok (.iload 4, 2) := by decide +kernel
theorem dXR_add_99 : decode cXR_add 99 = .ok (.ifCond .lt 10, 3) := by decide +kernel
theorem dXR_add_102 : decode cXR_add 102 = .ok (.iload 4, 2) := by decide +kernel
theorem dXR_add_104 : decode cXR_add 104 = .ok (.ldc 131, 2) := by decide +kernel
theorem dXR_add_106 : decode cXR_add 106 = .ok (.if_icmp .le 7, 3) := by decide +kernel
theorem dXR_add_109 : decode cXR_add 109 = .ok (.iconst 1, 1) := by decide +kernel
theorem dXR_add_110 : decode cXR_add 110 = .ok (.goto 4, 3) := by decide +kernel
theorem dXR_add_113 : decode cXR_add 113 = .ok (.iconst 0, 1) := by decide +kernel
theorem dXR_add_114 : decode cXR_add 114 = .ok (.putfield 175, 3) := by decide +kernel
theorem dXR_add_117 : decode cXR_add 117 = .ok (.iload 5, 2) := by decide +kernel
theorem dXR_add_119 : decode cXR_add 119 = .ok (.ireturn, 1) := by decide +kernel
theorem dXR_holds_0 : decode cXR_holds 0 = .ok (.iload_n 1, 1) := by decide +kernel
theorem dXR_holds_1 : decode cXR_holds 1 = .ok (.tableswitch 119 0 11 #[63, 119, 119, 119, 88, 83, 70, 65, 119, 119, 106, 101], 63) := by decide +kernel
theorem dXR_holds_64 : decode cXR_holds 64 = .ok (.iconst 1, 1) := by decide +kernel
theorem dXR_holds_65 : decode cXR_holds 65 = .ok (.ireturn, 1) := by decide +kernel
theorem dXR_holds_66 : decode cXR_holds 66 = .ok (.aload_n 0, 1) := by decide +kernel
theorem dXR_holds_67 : decode cXR_holds 67 = .ok (.getfield 169, 3) := by decide +kernel
theorem dXR_holds_70 : decode cXR_holds 70 = .ok (.ireturn, 1) := by decide +kernel
theorem dXR_holds_71 : decode cXR_holds 71 = .ok (.aload_n 0, 1) := by decide +kernel
theorem dXR_holds_72 : decode cXR_holds 72 = .ok (.getfield 169, 3) := by decide +kernel
theorem dXR_holds_75 : decode cXR_holds 75 = .ok (.ifCond .ne 7, 3) := by decide +kernel
theorem dXR_holds_78 : decode cXR_holds 78 = .ok (.iconst 1, 1) := by decide +kernel
theorem dXR_holds_79 : decode cXR_holds 79 = .ok (.goto 4, 3) := by decide +kernel
theorem dXR_holds_82 : decode cXR_holds 82 = .ok (.iconst 0, 1) := by decide +kernel
theorem dXR_holds_83 : decode cXR_holds 83 = .ok (.ireturn, 1) := by decide +kernel
theorem dXR_holds_84 : decode cXR_holds 84 = .ok (.aload_n 0, 1) := by decide +kernel
theorem dXR_holds_85 : decode cXR_holds 85 = .ok (.getfield 175, 3) := by decide +kernel
theorem dXR_holds_88 : decode cXR_holds 88 = .ok (.ireturn, 1) := by decide +kernel
theorem dXR_holds_89 : decode cXR_holds 89 = .ok (.aload_n 0, 1) := by decide +kernel
theorem dXR_holds_90 : decode cXR_holds 90 = .ok (.getfield 175, 3) := by decide +kernel
theorem dXR_holds_93 : decode cXR_holds 93 = .ok (.ifCond .ne 7, 3) := by decide +kernel
theorem dXR_holds_96 : decode cXR_holds 96 = .ok (.iconst 1, 1) := by decide +kernel
theorem dXR_holds_97 : decode cXR_holds 97 = .ok (.goto 4, 3) := by decide +kernel
theorem dXR_holds_100 : decode cXR_holds 100 = .ok (.iconst 0, 1) := by decide +kernel
theorem dXR_holds_101 : decode cXR_holds 101 = .ok (.ireturn, 1) := by decide +kernel
theorem dXR_holds_102 : decode cXR_holds 102 = .ok (.aload_n 0, 1) := by decide +kernel
theorem dXR_holds_103 : decode cXR_holds 103 = .ok (.getfield 166, 3) := by decide +kernel
theorem dXR_holds_106 : decode cXR_holds 106 = .ok (.ireturn, 1) := by decide +kernel
theorem dXR_holds_107 : decode cXR_holds 107 = .ok (.aload_n 0, 1) := by decide +kernel
theorem dXR_holds_108 : decode cXR_holds 108 = .ok (.getfield 166, 3) := by decide +kernel
theorem dXR_holds_111 : decode cXR_holds 111 = .ok (.ifCond .ne 7, 3) := by decide +kernel
theorem dXR_holds_114 : decode cXR_holds 114 = .ok (.iconst 1, 1) := by decide +kernel
theorem dXR_holds_115 : decode cXR_holds 115 = .ok (.goto 4, 3) := by decide +kernel
theorem dXR_holds_118 : decode cXR_holds 118 = .ok (.iconst 0, 1) := by decide +kernel
theorem dXR_holds_119 : decode cXR_holds 119 = .ok (.ireturn, 1) := by decide +kernel
theorem dXR_holds_120 : decode cXR_holds 120 = .ok (.iconst 0, 1) := by decide +kernel
theorem dXR_holds_121 : decode cXR_holds 121 = .ok (.ireturn, 1) := by decide +kernel
theorem dXR_branch_0 : decode cXR_branch 0 = .ok (.iload_n 1, 1) := by decide +kernel
theorem dXR_branch_1 : decode cXR_branch 1 = .ok (.bipush 8, 2) := by decide +kernel
theorem dXR_branch_3 : decode cXR_branch 3 = .ok (.ishr, 1) := by decide +kernel
theorem dXR_branch_4 : decode cXR_branch 4 = .ok (.bipush 15, 2) := by decide +kernel
theorem dXR_branch_6 : decode cXR_branch 6 = .ok (.iand, 1) := by decide +kernel
theorem dXR_branch_7 : decode cXR_branch 7 = .ok (.istore_n 2, 1) := by decide +kernel
theorem dXR_branch_8 : decode cXR_branch 8 = .ok (.iload_n 1, 1) := by decide +kernel
theorem dXR_branch_9 : decode cXR_branch 9 = .ok (.sipush 255, 3) := by decide +kernel
theorem dXR_branch_12 : decode cXR_branch 12 = .ok (.iand, 1) := by decide +kernel
theorem dXR_branch_13 : decode cXR_branch 13 = .ok (.ifCond .ne 5, 3) := by decide +kernel
theorem dXR_branch_16 : decode cXR_branch 16 = .ok (.iconst (-1), 1) := by decide +kernel
theorem dXR_branch_17 : decode cXR_branch 17 = .ok (.ireturn, 1) := by decide +kernel
theorem dXR_branch_18 : decode cXR_branch 18 = .ok (.aload_n 0, 1) := by decide +kernel
theorem dXR_branch_19 : decode cXR_branch 19 = .ok (.iload_n 2, 1) := by decide +kernel
theorem dXR_branch_20 : decode cXR_branch 20 = .ok (.invokevirtual 193, 3) := by decide +kernel
theorem dXR_branch_23 : decode cXR_branch 23 = .ok (.ifCond .ne 6, 3) := by decide +kernel
theorem dXR_branch_26 : decode cXR_branch 26 = .ok (.bipush 8, 2) := by decide +kernel
theorem dXR_branch_28 : decode cXR_branch 28 = .ok (.ireturn, 1) := by decide +kernel
theorem dXR_branch_29 : decode cXR_branch 29 = .ok (.iload_n 1, 1) := by decide +kernel
theorem dXR_branch_30 : decode cXR_branch 30 = .ok (.sipush 255, 3) := by decide +kernel
theorem dXR_branch_33 : decode cXR_branch 33 = .ok (.iand, 1) := by decide +kernel
theorem dXR_branch_34 : decode cXR_branch 34 = .ok (.istore_n 3, 1) := by decide +kernel
theorem dXR_branch_35 : decode cXR_branch 35 = .ok (.aload_n 0, 1) := by decide +kernel
theorem dXR_branch_36 : decode cXR_branch 36 = .ok (.aload_n 0, 1) := by decide +kernel
theorem dXR_branch_37 : decode cXR_branch 37 = .ok (.getfield 180, 3) := by decide +kernel
theorem dXR_branch_40 : decode cXR_branch 40 = .ok (.iload_n 3, 1) := by decide +kernel
theorem dXR_branch_41 : decode cXR_branch 41 = .ok (.bipush 127, 2) := by decide +kernel
theorem dXR_branch_43 : decode cXR_branch 43 = .ok (.if_icmp .le 11, 3) := by decide +kernel
theorem dXR_branch_46 : decode cXR_branch 46 = .ok (.iload_n 3, 1) := by decide +kernel
theorem dXR_branch_47 : decode cXR_branch 47 = .ok (.sipush 256, 3) := by decide +kernel
theorem dXR_branch_50 : decode cXR_branch 50 = .ok (.isub, 1) := by decide +kernel
theorem dXR_branch_51 : decode cXR_branch 51 = .ok (.goto 4, 3) := by decide +kernel
theorem dXR_branch_54 : decode cXR_branch 54 = .ok (.iload_n 3, 1) := by decide +kernel
theorem dXR_branch_55 : decode cXR_branch 55 = .ok (.iadd, 1) := by decide +kernel
theorem dXR_branch_56 : decode cXR_branch 56 = .ok (.ldc 131, 2) := by decide +kernel
theorem dXR_branch_58 : decode cXR_branch 58 = .ok (.iand, 1) := by decide +kernel
theorem dXR_branch_59 : decode cXR_branch 59 = .ok (.putfield 180, 3) := by decide +kernel
theorem dXR_branch_62 : decode cXR_branch 62 = .ok (.bipush 10, 2) := by decide +kernel
theorem dXR_branch_64 : decode cXR_branch 64 = .ok (.ireturn, 1) := by decide +kernel
theorem dXR_move_0 : decode cXR_move 0 = .ok (.iload_n 1, 1) := by decide +kernel
theorem dXR_move_1 : decode cXR_move 1 = .ok (.bipush 9, 2) := by decide +kernel
theorem dXR_move_3 : decode cXR_move 3 = .ok (.ishr, 1) := by decide +kernel
theorem dXR_move_4 : decode cXR_move 4 = .ok (.bipush 7, 2) := by decide +kernel
theorem dXR_move_6 : decode cXR_move 6 = .ok (.iand, 1) := by decide +kernel
theorem dXR_move_7 : decode cXR_move 7 = .ok (.istore_n 2, 1) := by decide +kernel
theorem dXR_move_8 : decode cXR_move 8 = .ok (.iload_n 1, 1) := by decide +kernel
theorem dXR_move_9 : decode cXR_move 9 = .ok (.bipush 7, 2) := by decide +kernel
theorem dXR_move_11 : decode cXR_move 11 = .ok (.iand, 1) := by decide +kernel
theorem dXR_move_12 : decode cXR_move 12 = .ok (.istore_n 3, 1) := by decide +kernel
theorem dXR_move_13 : decode cXR_move 13 = .ok (.iload_n 1, 1) := by decide +kernel
theorem dXR_move_14 : decode cXR_move 14 = .ok (.ldc 197, 2) := by decide +kernel
theorem dXR_move_16 : decode cXR_move 16 = .ok (.iand, 1) := by decide +kernel
theorem dXR_move_17 : decode cXR_move 17 = .ok (.istore 4, 2) := by decide +kernel
theorem dXR_move_19 : decode cXR_move 19 = .ok (.iload_n 1, 1) := by decide +kernel
theorem dXR_move_20 : decode cXR_move 20 = .ok (.ldc 198, 2) := by decide +kernel
theorem dXR_move_22 : decode cXR_move 22 = .ok (.iand, 1) := by decide +kernel
theorem dXR_move_23 : decode cXR_move 23 = .ok (.sipush 28672, 3) := by decide +kernel
theorem dXR_move_26 : decode cXR_move 26 = .ok (.if_icmp .ne 82, 3) := by decide +kernel
theorem dXR_move_29 : decode cXR_move 29 = .ok (.iload_n 1, 1) := by decide +kernel
theorem dXR_move_30 : decode cXR_move 30 = .ok (.sipush 255, 3) := by decide +kernel
theorem dXR_move_33 : decode cXR_move 33 = .ok (.iand, 1) := by decide +kernel
theorem dXR_move_34 : decode cXR_move 34 = .ok (.istore 5, 2) := by decide +kernel
theorem dXR_move_36 : decode cXR_move 36 = .ok (.aload_n 0, 1) := by decide +kernel
theorem dXR_move_37 : decode cXR_move 37 = .ok (.getfield 16, 3) := by decide +kernel
theorem dXR_move_40 : decode cXR_move 40 = .ok (.iload_n 2, 1) := by decide +kernel
theorem dXR_move_41 : decode cXR_move 41 = .ok (.iload 5, 2) := by decide +kernel
theorem dXR_move_43 : decode cXR_move 43 = .ok (.bipush 127, 2) := by decide +kernel
theorem dXR_move_45 : decode cXR_move 45 = .ok (.if_icmp .le 12, 3) := by decide +kernel
theorem dXR_move_48 : decode cXR_move 48 = .ok (.iload 5, 2) := by decide +kernel
theorem dXR_move_50 : decode cXR_move 50 = .ok (.sipush 256, 3) := by decide +kernel
theorem dXR_move_53 : decode cXR_move 53 = .ok (.isub, 1) := by decide +kernel
theorem dXR_move_54 : decode cXR_move 54 = .ok (.goto 5, 3) := by decide +kernel
theorem dXR_move_57 : decode cXR_move 57 = .ok (.iload 5, 2) := by decide +kernel
theorem dXR_move_59 : decode cXR_move 59 = .ok (.iastore, 1) := by decide +kernel
theorem dXR_move_60 : decode cXR_move 60 = .ok (.aload_n 0, 1) := by decide +kernel
theorem dXR_move_61 : decode cXR_move 61 = .ok (.aload_n 0, 1) := by decide +kernel
theorem dXR_move_62 : decode cXR_move 62 = .ok (.getfield 16, 3) := by decide +kernel
theorem dXR_move_65 : decode cXR_move 65 = .ok (.iload_n 2, 1) := by decide +kernel
theorem dXR_move_66 : decode cXR_move 66 = .ok (.iaload, 1) := by decide +kernel
theorem dXR_move_67 : decode cXR_move 67 = .ok (.ifCond .ge 7, 3) := by decide +kernel
theorem dXR_move_70 : decode cXR_move 70 = .ok (.iconst 1, 1) := by decide +kernel
theorem dXR_move_71 : decode cXR_move 71 = .ok (.goto 4, 3) := by decide +kernel
theorem dXR_move_74 : decode cXR_move 74 = .ok (.iconst 0, 1) := by decide +kernel
theorem dXR_move_75 : decode cXR_move 75 = .ok (.putfield 166, 3) := by decide +kernel
theorem dXR_move_78 : decode cXR_move 78 = .ok (.aload_n 0, 1) := by decide +kernel
theorem dXR_move_79 : decode cXR_move 79 = .ok (.aload_n 0, 1) := by decide +kernel
theorem dXR_move_80 : decode cXR_move 80 = .ok (.getfield 16, 3) := by decide +kernel
theorem dXR_move_83 : decode cXR_move 83 = .ok (.iload_n 2, 1) := by decide +kernel
theorem dXR_move_84 : decode cXR_move 84 = .ok (.iaload, 1) := by decide +kernel
theorem dXR_move_85 : decode cXR_move 85 = .ok (.ifCond .ne 7, 3) := by decide +kernel
theorem dXR_move_88 : decode cXR_move 88 = .ok (.iconst 1, 1) := by decide +kernel
theorem dXR_move_89 : decode cXR_move 89 = .ok (.goto 4, 3) := by decide +kernel
theorem dXR_move_92 : decode cXR_move 92 = .ok (.iconst 0, 1) := by decide +kernel
theorem dXR_move_93 : decode cXR_move 93 = .ok (.putfield 169, 3) := by decide +kernel
theorem dXR_move_96 : decode cXR_move 96 = .ok (.aload_n 0, 1) := by decide +kernel
theorem dXR_move_97 : decode cXR_move 97 = .ok (.iconst 0, 1) := by decide +kernel
theorem dXR_move_98 : decode cXR_move 98 = .ok (.putfield 172, 3) := by decide +kernel
theorem dXR_move_101 : decode cXR_move 101 = .ok (.aload_n 0, 1) := by decide +kernel
theorem dXR_move_102 : decode cXR_move 102 = .ok (.iconst 0, 1) := by decide +kernel
theorem dXR_move_103 : decode cXR_move 103 = .ok (.putfield 175, 3) := by decide +kernel
theorem dXR_move_106 : decode cXR_move 106 = .ok (.iconst 4, 1) := by decide +kernel
theorem dXR_move_107 : decode cXR_move 107 = .ok (.ireturn, 1) := by decide +kernel
theorem dXR_move_108 : decode cXR_move 108 = .ok (.iload 4, 2) := by decide +kernel
theorem dXR_move_110 : decode cXR_move 110 = .ok (.sipush 12288, 3) := by decide +kernel
theorem dXR_move_113 : decode cXR_move 113 = .ok (.if_icmp .ne 32, 3) := by decide +kernel
theorem dXR_move_116 : decode cXR_move 116 = .ok (.aload_n 0, 1) := by decide +kernel
theorem dXR_move_117 : decode cXR_move 117 = .ok (.iload_n 2, 1) := by decide +kernel
theorem dXR_move_118 : decode cXR_move 118 = .ok (.aload_n 0, 1) := by decide +kernel
theorem dXR_move_119 : decode cXR_move 119 = .ok (.getfield 16, 3) := by decide +kernel
theorem dXR_move_122 : decode cXR_move 122 = .ok (.iload_n 3, 1) := by decide +kernel
theorem dXR_move_123 : decode cXR_move 123 = .ok (.iaload, 1) := by decide +kernel
theorem dXR_move_124 : decode cXR_move 124 = .ok (.ldc 131, 2) := by decide +kernel
theorem dXR_move_126 : decode cXR_move 126 = .ok (.iand, 1) := by decide +kernel
theorem dXR_move_127 : decode cXR_move 127 = .ok (.invokevirtual 199, 3) := by decide +kernel
theorem dXR_move_130 : decode cXR_move 130 = .ok (.aload_n 0, 1) := by decide +kernel
theorem dXR_move_131 : decode cXR_move 131 = .ok (.aload_n 0, 1) := by decide +kernel
theorem dXR_move_132 : decode cXR_move 132 = .ok (.getfield 16, 3) := by decide +kernel
theorem dXR_move_135 : decode cXR_move 135 = .ok (.iload_n 3, 1) := by decide +kernel
theorem dXR_move_136 : decode cXR_move 136 = .ok (.iaload, 1) := by decide +kernel
theorem dXR_move_137 : decode cXR_move 137 = .ok (.ldc 131, 2) := by decide +kernel
theorem dXR_move_139 : decode cXR_move 139 = .ok (.iand, 1) := by decide +kernel
theorem dXR_move_140 : decode cXR_move 140 = .ok (.invokevirtual 202, 3) := by decide +kernel
theorem dXR_move_143 : decode cXR_move 143 = .ok (.iconst 4, 1) := by decide +kernel
theorem dXR_move_144 : decode cXR_move 144 = .ok (.ireturn, 1) := by decide +kernel
theorem dXR_move_145 : decode cXR_move 145 = .ok (.iload 4, 2) := by decide +kernel
theorem dXR_move_147 : decode cXR_move 147 = .ok (.sipush 12344, 3) := by decide +kernel
theorem dXR_move_150 : decode cXR_move 150 = .ok (.if_icmp .ne 33, 3) := by decide +kernel
theorem dXR_move_153 : decode cXR_move 153 = .ok (.iload_n 3, 1) := by decide +kernel
theorem dXR_move_154 : decode cXR_move 154 = .ok (.ifCond .ne 29, 3) := by decide +kernel
theorem dXR_move_157 : decode cXR_move 157 = .ok (.aload_n 0, 1) := by decide +kernel
theorem dXR_move_158 : decode cXR_move 158 = .ok (.aload_n 0, 1) := by decide +kernel
theorem dXR_move_159 : decode cXR_move 159 = .ok (.invokevirtual 205, 3) := by decide +kernel
theorem dXR_move_162 : decode cXR_move 162 = .ok (.invokevirtual 208, 3) := by decide +kernel
theorem dXR_move_165 : decode cXR_move 165 = .ok (.istore 5, 2) := by decide +kernel
theorem dXR_move_167 : decode cXR_move 167 = .ok (.aload_n 0, 1) := by decide +kernel
theorem dXR_move_168 : decode cXR_move 168 = .ok (.iload_n 2, 1) := by decide +kernel
theorem dXR_move_169 : decode cXR_move 169 = .ok (.iload 5, 2) := by decide +kernel
theorem dXR_move_171 : decode cXR_move 171 = .ok (.invokevirtual 199, 3) := by decide +kernel
theorem dXR_move_174 : decode cXR_move 174 = .ok (.aload_n 0, 1) := by decide +kernel
theorem dXR_move_175 : decode cXR_move 175 = .ok (.iload 5, 2) := by decide +kernel
theorem dXR_move_177 : decode cXR_move 177 = .ok (.invokevirtual 202, 3) := by decide +kernel
theorem dXR_move_180 : decode cXR_move 180 = .ok (.bipush 12, 2) := by decide +kernel
theorem dXR_move_182 : decode cXR_move 182 = .ok (.ireturn, 1) := by decide +kernel
theorem dXR_move_183 : decode cXR_move 183 = .ok (.iload_n 1, 1) := by decide +kernel
theorem dXR_move_184 : decode cXR_move 184 = .ok (.sipush 12736, 3) := by decide +kernel
theorem dXR_move_187 : decode cXR_move 187 = .ok (.if_icmp .lt 40, 3) := by decide +kernel
theorem dXR_move_190 : decode cXR_move 190 = .ok (.iload_n 1, 1) := by decide +kernel
theorem dXR_move_191 : decode cXR_move 191 = .ok (.sipush 12744, 3) := by decide +kernel
theorem dXR_move_194 : decode cXR_move 194 = .ok (.if_icmp .ge 33, 3) := by decide +kernel
theorem dXR_move_197 : decode cXR_move 197 = .ok (.aload_n 0, 1) := by decide +kernel
theorem dXR_move_198 : decode cXR_move 198 = .ok (.getfield 16, 3) := by decide +kernel
theorem dXR_move_201 : decode cXR_move 201 = .ok (.iload_n 3, 1) := by decide +kernel
theorem dXR_move_202 : decode cXR_move 202 = .ok (.iaload, 1) := by decide +kernel
theorem dXR_move_203 : decode cXR_move 203 = .ok (.ldc 131, 2) := by decide +kernel
theorem dXR_move_205 : decode cXR_move 205 = .ok (.iand, 1) := by decide +kernel
theorem dXR_move_206 : decode cXR_move 206 = .ok (.istore 5, 2) := by decide +kernel
theorem dXR_move_208 : decode cXR_move 208 = .ok (.aload_n 0, 1) := by decide +kernel
theorem dXR_move_209 : decode cXR_move 209 = .ok (.aload_n 0, 1) := by decide +kernel
theorem dXR_move_210 : decode cXR_move 210 = .ok (.invokevirtual 205, 3) := by decide +kernel
theorem dXR_move_213 : decode cXR_move 213 = .ok (.iload 5, 2) := by decide +kernel
theorem dXR_move_215 : decode cXR_move 215 = .ok (.invokevirtual 189, 3) := by decide +kernel
theorem dXR_move_218 : decode cXR_move 218 = .ok (.aload_n 0, 1) := by decide +kernel
theorem dXR_move_219 : decode cXR_move 219 = .ok (.iload 5, 2) := by decide +kernel
theorem dXR_move_221 : decode cXR_move 221 = .ok (.invokevirtual 202, 3) := by decide +kernel
theorem dXR_move_224 : decode cXR_move 224 = .ok (.bipush 12, 2) := by decide +kernel
theorem dXR_move_226 : decode cXR_move 226 = .ok (.ireturn, 1) := by decide +kernel
theorem dXR_move_227 : decode cXR_move 227 = .ok (.iload_n 1, 1) := by decide +kernel
theorem dXR_move_228 : decode cXR_move 228 = .ok (.sipush 12796, 3) := by decide +kernel
theorem dXR_move_231 : decode cXR_move 231 = .ok (.if_icmp .ne 28, 3) := by decide +kernel
theorem dXR_move_234 : decode cXR_move 234 = .ok (.aload_n 0, 1) := by decide +kernel
theorem dXR_move_235 : decode cXR_move 235 = .ok (.invokevirtual 205, 3) := by decide +kernel
theorem dXR_move_238 : decode cXR_move 238 = .ok (.istore 5, 2) := by decide +kernel
theorem dXR_move_240 : decode cXR_move 240 = .ok (.aload_n 0, 1) := by decide +kernel
theorem dXR_move_241 : decode cXR_move 241 = .ok (.aload_n 0, 1) := by decide +kernel
theorem dXR_move_242 : decode cXR_move 242 = .ok (.invokevirtual 205, 3) := by decide +kernel
theorem dXR_move_245 : decode cXR_move 245 = .ok (.iload 5, 2) := by decide +kernel
theorem dXR_move_247 : decode cXR_move 247 = .ok (.invokevirtual 189, 3) := by decide +kernel
theorem dXR_move_250 : decode cXR_move 250 = .ok (.aload_n 0, 1) := by decide +kernel
theorem dXR_move_251 : decode cXR_move 251 = .ok (.iload 5, 2) := by decide +kernel
theorem dXR_move_253 : decode cXR_move 253 = .ok (.invokevirtual 202, 3) := by decide +kernel
theorem dXR_move_256 : decode cXR_move 256 = .ok (.bipush 16, 2) := by decide +kernel
theorem dXR_move_258 : decode cXR_move 258 = .ok (.ireturn, 1) := by decide +kernel
theorem dXR_move_259 : decode cXR_move 259 = .ok (.iload 4, 2) := by decide +kernel
theorem dXR_move_261 : decode cXR_move 261 = .ok (.ldc 211, 2) := by decide +kernel
theorem dXR_move_263 : decode cXR_move 263 = .ok (.if_icmp .ne 33, 3) := by decide +kernel
theorem dXR_move_266 : decode cXR_move 266 = .ok (.aload_n 0, 1) := by decide +kernel
theorem dXR_move_267 : decode cXR_move 267 = .ok (.iload_n 2, 1) := by decide +kernel
theorem dXR_move_268 : decode cXR_move 268 = .ok (.aload_n 0, 1) := by decide +kernel
theorem dXR_move_269 : decode cXR_move 269 = .ok (.aload_n 0, 1) := by decide +kernel
theorem dXR_move_270 : decode cXR_move 270 = .ok (.getfield 16, 3) := by decide +kernel
theorem dXR_move_273 : decode cXR_move 273 = .ok (.iload_n 2, 1) := by decide +kernel
theorem dXR_move_274 : decode cXR_move 274 = .ok (.iaload, 1) := by decide +kernel
theorem dXR_move_275 : decode cXR_move 275 = .ok (.ldc 131, 2) := by decide +kernel
theorem dXR_move_277 : decode cXR_move 277 = .ok (.iand, 1) := by decide +kernel
theorem dXR_move_278 : decode cXR_move 278 = .ok (.aload_n 0, 1) := by decide +kernel
theorem dXR_move_279 : decode cXR_move 279 = .ok (.getfield 16, 3) := by decide +kernel
theorem dXR_move_282 : decode cXR_move 282 = .ok (.iload_n 3, 1) := by decide +kernel
theorem dXR_move_283 : decode cXR_move 283 = .ok (.iaload, 1) := by decide +kernel
theorem dXR_move_284 : decode cXR_move 284 = .ok (.ldc 131, 2) := by decide +kernel
theorem dXR_move_286 : decode cXR_move 286 = .ok (.iand, 1) := by decide +kernel
theorem dXR_move_287 : decode cXR_move 287 = .ok (.iconst 0, 1) := by decide +kernel
theorem dXR_move_288 : decode cXR_move 288 = .ok (.invokevirtual 212, 3) := by decide +kernel
theorem dXR_move_291 : decode cXR_move 291 = .ok (.invokevirtual 199, 3) := by decide +kernel
theorem dXR_move_294 : decode cXR_move 294 = .ok (.iconst 4, 1) := by decide +kernel
theorem dXR_move_295 : decode cXR_move 295 = .ok (.ireturn, 1) := by decide +kernel
theorem dXR_move_296 : decode cXR_move 296 = .ok (.iload 4, 2) := by decide +kernel
theorem dXR_move_298 : decode cXR_move 298 = .ok (.ldc 216, 2) := by decide +kernel
theorem dXR_move_300 : decode cXR_move 300 = .ok (.if_icmp .ne 30, 3) := by decide +kernel
theorem dXR_move_303 : decode cXR_move 303 = .ok (.aload_n 0, 1) := by decide +kernel
theorem dXR_move_304 : decode cXR_move 304 = .ok (.aload_n 0, 1) := by decide +kernel
theorem dXR_move_305 : decode cXR_move 305 = .ok (.getfield 16, 3) := by decide +kernel
theorem dXR_move_308 : decode cXR_move 308 = .ok (.iload_n 2, 1) := by decide +kernel
theorem dXR_move_309 : decode cXR_move 309 = .ok (.iaload, 1) := by decide +kernel
theorem dXR_move_310 : decode cXR_move 310 = .ok (.ldc 131, 2) := by decide +kernel
theorem dXR_move_312 : decode cXR_move 312 = .ok (.iand, 1) := by decide +kernel
theorem dXR_move_313 : decode cXR_move 313 = .ok (.aload_n 0, 1) := by decide +kernel
theorem dXR_move_314 : decode cXR_move 314 = .ok (.getfield 16, 3) := by decide +kernel
theorem dXR_move_317 : decode cXR_move 317 = .ok (.iload_n 3, 1) := by decide +kernel
theorem dXR_move_318 : decode cXR_move 318 = .ok (.iaload, 1) := by decide +kernel
theorem dXR_move_319 : decode cXR_move 319 = .ok (.ldc 131, 2) := by decide +kernel
theorem dXR_move_321 : decode cXR_move 321 = .ok (.iand, 1) := by decide +kernel
theorem dXR_move_322 : decode cXR_move 322 = .ok (.iconst 1, 1) := by decide +kernel
theorem dXR_move_323 : decode cXR_move 323 = .ok (.invokevirtual 212, 3) := by decide +kernel
theorem dXR_move_326 : decode cXR_move 326 = .ok (.istore 5, 2) := by decide +kernel
theorem dXR_move_328 : decode cXR_move 328 = .ok (.iconst 4, 1) := by decide +kernel
theorem dXR_move_329 : decode cXR_move 329 = .ok (.ireturn, 1) := by decide +kernel
theorem dXR_move_330 : decode cXR_move 330 = .ok (.iconst (-1), 1) := by decide +kernel
theorem dXR_move_331 : decode cXR_move 331 = .ok (.ireturn, 1) := by decide +kernel
theorem dXR_control2_0 : decode cXR_control2 0 = .ok (.iload_n 1, 1) := by decide +kernel
theorem dXR_control2_1 : decode cXR_control2 1 = .ok (.sipush 20081, 3) := by decide +kernel
theorem dXR_control2_4 : decode cXR_control2 4 = .ok (.if_icmp .ne 5, 3) := by decide +kernel
theorem dXR_control2_7 : decode cXR_control2 7 = .ok (.iconst 4, 1) := by decide +kernel
theorem dXR_control2_8 : decode cXR_control2 8 = .ok (.ireturn, 1) := by decide +kernel
theorem dXR_control2_9 : decode cXR_control2 9 = .ok (.iload_n 1, 1) := by decide +kernel
theorem dXR_control2_10 : decode cXR_control2 10 = .ok (.sipush 20083, 3) := by decide +kernel
theorem dXR_control2_13 : decode cXR_control2 13 = .ok (.if_icmp .ne 51, 3) := by decide +kernel
theorem dXR_control2_16 : decode cXR_control2 16 = .ok (.aload_n 0, 1) := by decide +kernel
theorem dXR_control2_17 : decode cXR_control2 17 = .ok (.aload_n 0, 1) := by decide +kernel
theorem dXR_control2_18 : decode cXR_control2 18 = .ok (.getfield 183, 3) := by decide +kernel
theorem dXR_control2_21 : decode cXR_control2 21 = .ok (.invokevirtual 76, 3) := by decide +kernel
theorem dXR_control2_24 : decode cXR_control2 24 = .ok (.istore_n 2, 1) := by decide +kernel
theorem dXR_control2_25 : decode cXR_control2 25 = .ok (.aload_n 0, 1) := by decide +kernel
theorem dXR_control2_26 : decode cXR_control2 26 = .ok (.aload_n 0, 1) := by decide +kernel
theorem dXR_control2_27 : decode cXR_control2 27 = .ok (.aload_n 0, 1) := by decide +kernel
theorem dXR_control2_28 : decode cXR_control2 28 = .ok (.getfield 183, 3) := by decide +kernel
theorem dXR_control2_31 : decode cXR_control2 31 = .ok (.iconst 4, 1) := by decide +kernel
theorem dXR_control2_32 : decode cXR_control2 32 = .ok (.iadd, 1) := by decide +kernel
theorem dXR_control2_33 : decode cXR_control2 33 = .ok (.ldc 131, 2) := by decide +kernel
theorem dXR_control2_35 : decode cXR_control2 35 = .ok (.iand, 1) := by decide +kernel
theorem dXR_control2_36 : decode cXR_control2 36 = .ok (.invokevirtual 76, 3) := by decide +kernel
theorem dXR_control2_39 : decode cXR_control2 39 = .ok (.putfield 180, 3) := by decide +kernel
theorem dXR_control2_42 : decode cXR_control2 42 = .ok (.aload_n 0, 1) := by decide +kernel
theorem dXR_control2_43 : decode cXR_control2 43 = .ok (.aload_n 0, 1) := by decide +kernel
theorem dXR_control2_44 : decode cXR_control2 44 = .ok (.getfield 183, 3) := by decide +kernel
theorem dXR_control2_47 : decode cXR_control2 47 = .ok (.bipush 6, 2) := by decide +kernel
theorem dXR_control2_49 : decode cXR_control2 49 = .ok (.iadd, 1) := by decide +kernel
theorem dXR_control2_50 : decode cXR_control2 50 = .ok (.ldc 131, 2) := by decide +kernel
theorem dXR_control2_52 : decode cXR_control2 52 = .ok (.iand, 1) := by decide +kernel
theorem dXR_control2_53 : decode cXR_control2 53 = .ok (.putfield 183, 3) := by decide +kernel
theorem dXR_control2_56 : decode cXR_control2 56 = .ok (.aload_n 0, 1) := by decide +kernel
theorem dXR_control2_57 : decode cXR_control2 57 = .ok (.iload_n 2, 1) := by decide +kernel
theorem dXR_control2_58 : decode cXR_control2 58 = .ok (.invokevirtual 217, 3) := by decide +kernel
theorem dXR_control2_61 : decode cXR_control2 61 = .ok (.bipush 20, 2) := by decide +kernel
theorem dXR_control2_63 : decode cXR_control2 63 = .ok (.ireturn, 1) := by decide +kernel
theorem dXR_control2_64 : decode cXR_control2 64 = .ok (.iload_n 1, 1) := by decide +kernel
theorem dXR_control2_65 : decode cXR_control2 65 = .ok (.sipush 20082, 3) := by decide +kernel
theorem dXR_control2_68 : decode cXR_control2 68 = .ok (.if_icmp .ne 18, 3) := by decide +kernel
theorem dXR_control2_71 : decode cXR_control2 71 = .ok (.aload_n 0, 1) := by decide +kernel
theorem dXR_control2_72 : decode cXR_control2 72 = .ok (.aload_n 0, 1) := by decide +kernel
theorem dXR_control2_73 : decode cXR_control2 73 = .ok (.invokevirtual 205, 3) := by decide +kernel
theorem dXR_control2_76 : decode cXR_control2 76 = .ok (.invokevirtual 217, 3) := by decide +kernel
theorem dXR_control2_79 : decode cXR_control2 79 = .ok (.aload_n 0, 1) := by decide +kernel
theorem dXR_control2_80 : decode cXR_control2 80 = .ok (.iconst 1, 1) := by decide +kernel
theorem dXR_control2_81 : decode cXR_control2 81 = .ok (.putfield 220, 3) := by decide +kernel
theorem dXR_control2_84 : decode cXR_control2 84 = .ok (.iconst 4, 1) := by decide +kernel
theorem dXR_control2_85 : decode cXR_control2 85 = .ok (.ireturn, 1) := by decide +kernel
theorem dXR_control2_86 : decode cXR_control2 86 = .ok (.iload_n 1, 1) := by decide +kernel
theorem dXR_control2_87 : decode cXR_control2 87 = .ok (.sipush 20064, 3) := by decide +kernel
theorem dXR_control2_90 : decode cXR_control2 90 = .ok (.if_icmp .lt 28, 3) := by decide +kernel
theorem dXR_control2_93 : decode cXR_control2 93 = .ok (.iload_n 1, 1) := by decide +kernel
theorem dXR_control2_94 : decode cXR_control2 94 = .ok (.sipush 20072, 3) := by decide +kernel
theorem dXR_control2_97 : decode cXR_control2 97 = .ok (.if_icmp .ge 21, 3) := by decide +kernel
theorem dXR_control2_100 : decode cXR_control2 100 = .ok (.aload_n 0, 1) := by decide +kernel
theorem dXR_control2_101 : decode cXR_control2 101 = .ok (.aload_n 0, 1) := by decide +kernel
theorem dXR_control2_102 : decode cXR_control2 102 = .ok (.getfield 16, 3) := by decide +kernel
theorem dXR_control2_105 : decode cXR_control2 105 = .ok (.iload_n 1, 1) := by decide +kernel
theorem dXR_control2_106 : decode cXR_control2 106 = .ok (.bipush 7, 2) := by decide +kernel
theorem dXR_control2_108 : decode cXR_control2 108 = .ok (.iand, 1) := by decide +kernel
theorem dXR_control2_109 : decode cXR_control2 109 = .ok (.iaload, 1) := by decide +kernel
theorem dXR_control2_110 : decode cXR_control2 110 = .ok (.ldc 131, 2) := by decide +kernel
theorem dXR_control2_112 : decode cXR_control2 112 = .ok (.iand, 1) := by decide +kernel
theorem dXR_control2_113 : decode cXR_control2 113 = .ok (.putfield 183, 3) := by decide +kernel
theorem dXR_control2_116 : decode cXR_control2 116 = .ok (.iconst 4, 1) := by decide +kernel
theorem dXR_control2_117 : decode cXR_control2 117 = .ok (.ireturn, 1) := by decide +kernel
theorem dXR_control2_118 : decode cXR_control2 118 = .ok (.iload_n 1, 1) := by decide +kernel
theorem dXR_control2_119 : decode cXR_control2 119 = .ok (.bipush 12, 2) := by decide +kernel
theorem dXR_control2_121 : decode cXR_control2 121 = .ok (.ishr, 1) := by decide +kernel
theorem dXR_control2_122 : decode cXR_control2 122 = .ok (.bipush 6, 2) := by decide +kernel
theorem dXR_control2_124 : decode cXR_control2 124 = .ok (.if_icmp .ne 11, 3) := by decide +kernel
theorem dXR_control2_127 : decode cXR_control2 127 = .ok (.aload_n 0, 1) := by decide +kernel
theorem dXR_control2_128 : decode cXR_control2 128 = .ok (.iload_n 1, 1) := by decide +kernel
theorem dXR_control2_129 : decode cXR_control2 129 = .ok (.invokevirtual 223, 3) := by decide +kernel
theorem dXR_control2_132 : decode cXR_control2 132 = .ok (.goto 4, 3) := by decide +kernel
theorem dXR_control2_135 : decode cXR_control2 135 = .ok (.iconst (-1), 1) := by decide +kernel
theorem dXR_control2_136 : decode cXR_control2 136 = .ok (.ireturn, 1) := by decide +kernel
theorem dXR_instruction_0 : decode cXR_instruction 0 = .ok (.aload_n 0, 1) := by decide +kernel
theorem dXR_instruction_1 : decode cXR_instruction 1 = .ok (.invokevirtual 205, 3) := by decide +kernel
theorem dXR_instruction_4 : decode cXR_instruction 4 = .ok (.istore_n 1, 1) := by decide +kernel
theorem dXR_instruction_5 : decode cXR_instruction 5 = .ok (.aload_n 0, 1) := by decide +kernel
theorem dXR_instruction_6 : decode cXR_instruction 6 = .ok (.iload_n 1, 1) := by decide +kernel
theorem dXR_instruction_7 : decode cXR_instruction 7 = .ok (.invokevirtual 226, 3) := by decide +kernel
theorem dXR_instruction_10 : decode cXR_instruction 10 = .ok (.istore_n 2, 1) := by decide +kernel
theorem dXR_instruction_11 : decode cXR_instruction 11 = .ok (.iload_n 2, 1) := by decide +kernel
theorem dXR_instruction_12 : decode cXR_instruction 12 = .ok (.ifCond .ge 11, 3) := by decide +kernel
theorem dXR_instruction_15 : decode cXR_instruction 15 = .ok (.aload_n 0, 1) := by decide +kernel
theorem dXR_instruction_16 : decode cXR_instruction 16 = .ok (.iload_n 1, 1) := by decide +kernel
theorem dXR_instruction_17 : decode cXR_instruction 17 = .ok (.invokevirtual 229, 3) := by decide +kernel
theorem dXR_instruction_20 : decode cXR_instruction 20 = .ok (.goto 4, 3) := by decide +kernel
theorem dXR_instruction_23 : decode cXR_instruction 23 = .ok (.iload_n 2, 1) := by decide +kernel
theorem dXR_instruction_24 : decode cXR_instruction 24 = .ok (.istore_n 2, 1) := by decide +kernel
theorem dXR_instruction_25 : decode cXR_instruction 25 = .ok (.iload_n 2, 1) := by decide +kernel
theorem dXR_instruction_26 : decode cXR_instruction 26 = .ok (.ifCond .ge 24, 3) := by decide +kernel
theorem dXR_instruction_29 : decode cXR_instruction 29 = .ok (.aload_n 0, 1) := by decide +kernel
theorem dXR_instruction_30 : decode cXR_instruction 30 = .ok (.aload_n 0, 1) := by decide +kernel
theorem dXR_instruction_31 : decode cXR_instruction 31 = .ok (.getfield 180, 3) := by decide +kernel
theorem dXR_instruction_34 : decode cXR_instruction 34 = .ok (.iconst 2, 1) := by decide +kernel
theorem dXR_instruction_35 : decode cXR_instruction 35 = .ok (.isub, 1) := by decide +kernel
theorem dXR_instruction_36 : decode cXR_instruction 36 = .ok (.ldc 131, 2) := by decide +kernel
theorem dXR_instruction_38 : decode cXR_instruction 38 = .ok (.iand, 1) := by decide +kernel
theorem dXR_instruction_39 : decode cXR_instruction 39 = .ok (.putfield 180, 3) := by decide +kernel
theorem dXR_instruction_42 : decode cXR_instruction 42 = .ok (.aload_n 0, 1) := by decide +kernel
theorem dXR_instruction_43 : decode cXR_instruction 43 = .ok (.iconst 4, 1) := by decide +kernel
theorem dXR_instruction_44 : decode cXR_instruction 44 = .ok (.invokevirtual 232, 3) := by decide +kernel
theorem dXR_instruction_47 : decode cXR_instruction 47 = .ok (.bipush 34, 2) := by decide +kernel
theorem dXR_instruction_49 : decode cXR_instruction 49 = .ok (.istore_n 2, 1) := by decide +kernel
theorem dXR_instruction_50 : decode cXR_instruction 50 = .ok (.iload_n 2, 1) := by decide +kernel
theorem dXR_instruction_51 : decode cXR_instruction 51 = .ok (.ireturn, 1) := by decide +kernel
theorem dXR_interrupt_0 : decode cXR_interrupt 0 = .ok (.aload_n 0, 1) := by decide +kernel
theorem dXR_interrupt_1 : decode cXR_interrupt 1 = .ok (.bipush 24, 2) := by decide +kernel
theorem dXR_interrupt_3 : decode cXR_interrupt 3 = .ok (.iload_n 1, 1) := by decide +kernel
theorem dXR_interrupt_4 : decode cXR_interrupt 4 = .ok (.iadd, 1) := by decide +kernel
theorem dXR_interrupt_5 : decode cXR_interrupt 5 = .ok (.invokevirtual 232, 3) := by decide +kernel
theorem dXR_interrupt_8 : decode cXR_interrupt 8 = .ok (.aload_n 0, 1) := by decide +kernel
theorem dXR_interrupt_9 : decode cXR_interrupt 9 = .ok (.iload_n 1, 1) := by decide +kernel
theorem dXR_interrupt_10 : decode cXR_interrupt 10 = .ok (.putfield 163, 3) := by decide +kernel
theorem dXR_interrupt_13 : decode cXR_interrupt 13 = .ok (.aload_n 0, 1) := by decide +kernel
theorem dXR_interrupt_14 : decode cXR_interrupt 14 = .ok (.iconst 0, 1) := by decide +kernel
theorem dXR_interrupt_15 : decode cXR_interrupt 15 = .ok (.putfield 220, 3) := by decide +kernel
theorem dXR_interrupt_18 : decode cXR_interrupt 18 = .ok (.bipush 44, 2) := by decide +kernel
theorem dXR_interrupt_20 : decode cXR_interrupt 20 = .ok (.ireturn, 1) := by decide +kernel
theorem dXR_mainStep_0 : decode cXR_mainStep 0 = .ok (.aload_n 0, 1) := by decide +kernel
theorem dXR_mainStep_1 : decode cXR_mainStep 1 = .ok (.getfield 51, 3) := by decide +kernel
theorem dXR_mainStep_4 : decode cXR_mainStep 4 = .ok (.ifCond .le 9, 3) := by decide +kernel
theorem dXR_mainStep_7 : decode cXR_mainStep 7 = .ok (.aload_n 0, 1) := by decide +kernel
theorem dXR_mainStep_8 : decode cXR_mainStep 8 = .ok (.invokevirtual 235, 3) := by decide +kernel
theorem dXR_mainStep_11 : decode cXR_mainStep 11 = .ok (.iconst 2, 1) := by decide +kernel
theorem dXR_mainStep_12 : decode cXR_mainStep 12 = .ok (.ireturn, 1) := by decide +kernel
theorem dXR_mainStep_13 : decode cXR_mainStep 13 = .ok (.aload_n 0, 1) := by decide +kernel
theorem dXR_mainStep_14 : decode cXR_mainStep 14 = .ok (.getfield 58, 3) := by decide +kernel
theorem dXR_mainStep_17 : decode cXR_mainStep 17 = .ok (.ifCond .eq 24, 3) := by decide +kernel
theorem dXR_mainStep_20 : decode cXR_mainStep 20 = .ok (.aload_n 0, 1) := by decide +kernel
theorem dXR_mainStep_21 : decode cXR_mainStep 21 = .ok (.getfield 163, 3) := by decide +kernel
theorem dXR_mainStep_24 : decode cXR_mainStep 24 = .ok (.bipush 6, 2) := by decide +kernel
theorem dXR_mainStep_26 : decode cXR_mainStep 26 = .ok (.if_icmp .ge 15, 3) := by decide +kernel
theorem dXR_mainStep_29 : decode cXR_mainStep 29 = .ok (.aload_n 0, 1) := by decide +kernel
theorem dXR_mainStep_30 : decode cXR_mainStep 30 = .ok (.iconst 0, 1) := by decide +kernel
theorem dXR_mainStep_31 : decode cXR_mainStep 31 = .ok (.putfield 58, 3) := by decide +kernel
theorem dXR_mainStep_34 : decode cXR_mainStep 34 = .ok (.aload_n 0, 1) := by decide +kernel
theorem dXR_mainStep_35 : decode cXR_mainStep 35 = .ok (.bipush 6, 2) := by decide +kernel
theorem dXR_mainStep_37 : decode cXR_mainStep 37 = .ok (.invokevirtual 238, 3) := by decide +kernel
theorem dXR_mainStep_40 : decode cXR_mainStep 40 = .ok (.ireturn, 1) := by decide +kernel
theorem dXR_mainStep_41 : decode cXR_mainStep 41 = .ok (.aload_n 0, 1) := by decide +kernel
theorem dXR_mainStep_42 : decode cXR_mainStep 42 = .ok (.getfield 241, 3) := by decide +kernel
theorem dXR_mainStep_45 : decode cXR_mainStep 45 = .ok (.ifCond .eq 22, 3) := by decide +kernel
theorem dXR_mainStep_48 : decode cXR_mainStep 48 = .ok (.aload_n 0, 1) := by decide +kernel
theorem dXR_mainStep_49 : decode cXR_mainStep 49 = .ok (.getfield 163, 3) := by decide +kernel
theorem dXR_mainStep_52 : decode cXR_mainStep 52 = .ok (.iconst 4, 1) := by decide +kernel
theorem dXR_mainStep_53 : decode cXR_mainStep 53 = .ok (.if_icmp .ge 14, 3) := by decide +kernel
theorem dXR_mainStep_56 : decode cXR_mainStep 56 = .ok (.aload_n 0, 1) := by decide +kernel
theorem dXR_mainStep_57 : decode cXR_mainStep 57 = .ok (.iconst 0, 1) := by decide +kernel
theorem dXR_mainStep_58 : decode cXR_mainStep 58 = .ok (.putfield 241, 3) := by decide +kernel
theorem dXR_mainStep_61 : decode cXR_mainStep 61 = .ok (.aload_n 0, 1) := by decide +kernel
theorem dXR_mainStep_62 : decode cXR_mainStep 62 = .ok (.iconst 4, 1) := by decide +kernel
theorem dXR_mainStep_63 : decode cXR_mainStep 63 = .ok (.invokevirtual 238, 3) := by decide +kernel
theorem dXR_mainStep_66 : decode cXR_mainStep 66 = .ok (.ireturn, 1) := by decide +kernel
theorem dXR_mainStep_67 : decode cXR_mainStep 67 = .ok (.aload_n 0, 1) := by decide +kernel
theorem dXR_mainStep_68 : decode cXR_mainStep 68 = .ok (.getfield 220, 3) := by decide +kernel
theorem dXR_mainStep_71 : decode cXR_mainStep 71 = .ok (.ifCond .eq 5, 3) := by decide +kernel
theorem dXR_mainStep_74 : decode cXR_mainStep 74 = .ok (.iconst 4, 1) := by decide +kernel
theorem dXR_mainStep_75 : decode cXR_mainStep 75 = .ok (.ireturn, 1) := by decide +kernel
theorem dXR_mainStep_76 : decode cXR_mainStep 76 = .ok (.aload_n 0, 1) := by decide +kernel
theorem dXR_mainStep_77 : decode cXR_mainStep 77 = .ok (.aload_n 0, 1) := by decide +kernel
theorem dXR_mainStep_78 : decode cXR_mainStep 78 = .ok (.getfield 244, 3) := by decide +kernel
theorem dXR_mainStep_81 : decode cXR_mainStep 81 = .ok (.putfield 247, 3) := by decide +kernel
theorem dXR_mainStep_84 : decode cXR_mainStep 84 = .ok (.aload_n 0, 1) := by decide +kernel
theorem dXR_mainStep_85 : decode cXR_mainStep 85 = .ok (.iconst 0, 1) := by decide +kernel
theorem dXR_mainStep_86 : decode cXR_mainStep 86 = .ok (.putfield 244, 3) := by decide +kernel
theorem dXR_mainStep_89 : decode cXR_mainStep 89 = .ok (.aload_n 0, 1) := by decide +kernel
theorem dXR_mainStep_90 : decode cXR_mainStep 90 = .ok (.invokevirtual 250, 3) := by decide +kernel
theorem dXR_mainStep_93 : decode cXR_mainStep 93 = .ok (.ireturn, 1) := by decide +kernel
theorem dXR_load_0 : decode cXR_load 0 = .ok (.iload_n 1, 1) := by decide +kernel
theorem dXR_load_1 : decode cXR_load 1 = .ok (.ldc 178, 2) := by decide +kernel
theorem dXR_load_3 : decode cXR_load 3 = .ok (.if_icmp .ge 14, 3) := by decide +kernel
theorem dXR_load_6 : decode cXR_load 6 = .ok (.aload_n 0, 1) := by decide +kernel
theorem dXR_load_7 : decode cXR_load 7 = .ok (.getfield 19, 3) := by decide +kernel
theorem dXR_load_10 : decode cXR_load 10 = .ok (.iload_n 1, 1) := by decide +kernel
theorem dXR_load_11 : decode cXR_load 11 = .ok (.sipush 128, 3) := by decide +kernel
theorem dXR_load_14 : decode cXR_load 14 = .ok (.irem, 1) := by decide +kernel
theorem dXR_load_15 : decode cXR_load 15 = .ok (.iaload, 1) := by decide +kernel
theorem dXR_load_16 : decode cXR_load 16 = .ok (.ireturn, 1) := by decide +kernel
theorem dXR_load_17 : decode cXR_load 17 = .ok (.aload_n 0, 1) := by decide +kernel
theorem dXR_load_18 : decode cXR_load 18 = .ok (.dup, 1) := by decide +kernel
theorem dXR_load_19 : decode cXR_load 19 = .ok (.getfield 253, 3) := by decide +kernel
theorem dXR_load_22 : decode cXR_load 22 = .ok (.iconst 3, 1) := by decide +kernel
theorem dXR_load_23 : decode cXR_load 23 = .ok (.iadd, 1) := by decide +kernel
theorem dXR_load_24 : decode cXR_load 24 = .ok (.putfield 253, 3) := by decide +kernel
theorem dXR_load_27 : decode cXR_load 27 = .ok (.aload_n 0, 1) := by decide +kernel
theorem dXR_load_28 : decode cXR_load 28 = .ok (.dup, 1) := by decide +kernel
theorem dXR_load_29 : decode cXR_load 29 = .ok (.getfield 244, 3) := by decide +kernel
theorem dXR_load_32 : decode cXR_load 32 = .ok (.bipush 11, 2) := by decide +kernel
theorem dXR_load_34 : decode cXR_load 34 = .ok (.iadd, 1) := by decide +kernel
theorem dXR_load_35 : decode cXR_load 35 = .ok (.putfield 244, 3) := by decide +kernel
theorem dXR_load_38 : decode cXR_load 38 = .ok (.aload_n 0, 1) := by decide +kernel
theorem dXR_load_39 : decode cXR_load 39 = .ok (.getfield 7, 3) := by decide +kernel
theorem dXR_load_42 : decode cXR_load 42 = .ok (.iload_n 1, 1) := by decide +kernel
theorem dXR_load_43 : decode cXR_load 43 = .ok (.sipush 512, 3) := by decide +kernel
theorem dXR_load_46 : decode cXR_load 46 = .ok (.irem, 1) := by decide +kernel
theorem dXR_load_47 : decode cXR_load 47 = .ok (.iaload, 1) := by decide +kernel
theorem dXR_load_48 : decode cXR_load 48 = .ok (.ireturn, 1) := by decide +kernel
theorem dXR_next_0 : decode cXR_next 0 = .ok (.aload_n 0, 1) := by decide +kernel
theorem dXR_next_1 : decode cXR_next 1 = .ok (.aload_n 0, 1) := by decide +kernel
theorem dXR_next_2 : decode cXR_next 2 = .ok (.getfield 113, 3) := by decide +kernel
theorem dXR_next_5 : decode cXR_next 5 = .ok (.invokevirtual 256, 3) := by decide +kernel
theorem dXR_next_8 : decode cXR_next 8 = .ok (.istore_n 1, 1) := by decide +kernel
theorem dXR_next_9 : decode cXR_next 9 = .ok (.aload_n 0, 1) := by decide +kernel
theorem dXR_next_10 : decode cXR_next 10 = .ok (.aload_n 0, 1) := by decide +kernel
theorem dXR_next_11 : decode cXR_next 11 = .ok (.getfield 113, 3) := by decide +kernel
theorem dXR_next_14 : decode cXR_next 14 = .ok (.iconst 1, 1) := by decide +kernel
theorem dXR_next_15 : decode cXR_next 15 = .ok (.iadd, 1) := by decide +kernel
theorem dXR_next_16 : decode cXR_next 16 = .ok (.ldc 131, 2) := by decide +kernel
theorem dXR_next_18 : decode cXR_next 18 = .ok (.iand, 1) := by decide +kernel
theorem dXR_next_19 : decode cXR_next 19 = .ok (.putfield 113, 3) := by decide +kernel
theorem dXR_next_22 : decode cXR_next 22 = .ok (.iload_n 1, 1) := by decide +kernel
theorem dXR_next_23 : decode cXR_next 23 = .ok (.ireturn, 1) := by decide +kernel
theorem dXR_pair_0 : decode cXR_pair 0 = .ok (.aload_n 0, 1) := by decide +kernel
theorem dXR_pair_1 : decode cXR_pair 1 = .ok (.invokevirtual 259, 3) := by decide +kernel
theorem dXR_pair_4 : decode cXR_pair 4 = .ok (.istore_n 1, 1) := by decide +kernel
theorem dXR_pair_5 : decode cXR_pair 5 = .ok (.iload_n 1, 1) := by decide +kernel
theorem dXR_pair_6 : decode cXR_pair 6 = .ok (.sipush 256, 3) := by decide +kernel
theorem dXR_pair_9 : decode cXR_pair 9 = .ok (.aload_n 0, 1) := by decide +kernel
theorem dXR_pair_10 : decode cXR_pair 10 = .ok (.invokevirtual 259, 3) := by decide +kernel
theorem dXR_pair_13 : decode cXR_pair 13 = .ok (.imul, 1) := by decide +kernel
theorem dXR_pair_14 : decode cXR_pair 14 = .ok (.iadd, 1) := by decide +kernel
theorem dXR_pair_15 : decode cXR_pair 15 = .ok (.ireturn, 1) := by decide +kernel
theorem dXR_becomes_0 : decode cXR_becomes 0 = .ok (.aload_n 0, 1) := by decide +kernel
theorem dXR_becomes_1 : decode cXR_becomes 1 = .ok (.iload_n 1, 1) := by decide +kernel
theorem dXR_becomes_2 : decode cXR_becomes 2 = .ok (.sipush 255, 3) := by decide +kernel
theorem dXR_becomes_5 : decode cXR_becomes 5 = .ok (.iand, 1) := by decide +kernel
theorem dXR_becomes_6 : decode cXR_becomes 6 = .ok (.putfield 104, 3) := by decide +kernel
theorem dXR_becomes_9 : decode cXR_becomes 9 = .ok (.aload_n 0, 1) := by decide +kernel
theorem dXR_becomes_10 : decode cXR_becomes 10 = .ok (.aload_n 0, 1) := by decide +kernel
theorem dXR_becomes_11 : decode cXR_becomes 11 = .ok (.getfield 104, 3) := by decide +kernel
theorem dXR_becomes_14 : decode cXR_becomes 14 = .ok (.ifCond .ne 7, 3) := by decide +kernel
theorem dXR_becomes_17 : decode cXR_becomes 17 = .ok (.iconst 1, 1) := by decide +kernel
theorem dXR_becomes_18 : decode cXR_becomes 18 = .ok (.goto 4, 3) := by decide +kernel
theorem dXR_becomes_21 : decode cXR_becomes 21 = .ok (.iconst 0, 1) := by decide +kernel
theorem dXR_becomes_22 : decode cXR_becomes 22 = .ok (.putfield 116, 3) := by decide +kernel
theorem dXR_becomes_25 : decode cXR_becomes 25 = .ok (.return_, 1) := by decide +kernel
theorem dXR_second_0 : decode cXR_second 0 = .ok (.aload_n 0, 1) := by decide +kernel
theorem dXR_second_1 : decode cXR_second 1 = .ok (.invokevirtual 259, 3) := by decide +kernel
theorem dXR_second_4 : decode cXR_second 4 = .ok (.istore_n 1, 1) := by decide +kernel
theorem dXR_second_5 : decode cXR_second 5 = .ok (.iload_n 1, 1) := by decide +kernel
theorem dXR_second_6 : decode cXR_second 6 = .ok (.lookupswitch 341 #[(32, 253), (50, 210), (58, 238), (60, 171), (61, 198), (62, 130), (71, 141), (103, 161), (118, 309), (120, 151), (128, 183), (195, 298), (201, 330), (243, 323), (251, 316)], 130) := by decide +kernel
theorem dXR_second_136 : decode cXR_second 136 = .ok (.aload_n 0, 1) := by decide +kernel
theorem dXR_second_137 : decode cXR_second 137 = .ok (.aload_n 0, 1) := by decide +kernel
theorem dXR_second_138 : decode cXR_second 138 = .ok (.invokevirtual 259, 3) := by decide +kernel
theorem dXR_second_141 : decode cXR_second 141 = .ok (.putfield 104, 3) := by decide +kernel
theorem dXR_second_144 : decode cXR_second 144 = .ok (.bipush 7, 2) := by decide +kernel
theorem dXR_second_146 : decode cXR_second 146 = .ok (.ireturn, 1) := by decide +kernel
theorem dXR_second_147 : decode cXR_second 147 = .ok (.aload_n 0, 1) := by decide +kernel
theorem dXR_second_148 : decode cXR_second 148 = .ok (.aload_n 0, 1) := by decide +kernel
theorem dXR_second_149 : decode cXR_second 149 = .ok (.getfield 104, 3) := by decide +kernel
theorem dXR_second_152 : decode cXR_second 152 = .ok (.putfield 107, 3) := by decide +kernel
theorem dXR_second_155 : decode cXR_second 155 = .ok (.iconst 4, 1) := by decide +kernel
theorem dXR_second_156 : decode cXR_second 156 = .ok (.ireturn, 1) := by decide +kernel
theorem dXR_second_157 : decode cXR_second 157 = .ok (.aload_n 0, 1) := by decide +kernel
theorem dXR_second_158 : decode cXR_second 158 = .ok (.aload_n 0, 1) := by decide +kernel
theorem dXR_second_159 : decode cXR_second 159 = .ok (.getfield 107, 3) := by decide +kernel
theorem dXR_second_162 : decode cXR_second 162 = .ok (.putfield 104, 3) := by decide +kernel
theorem dXR_second_165 : decode cXR_second 165 = .ok (.iconst 4, 1) := by decide +kernel
theorem dXR_second_166 : decode cXR_second 166 = .ok (.ireturn, 1) := by decide +kernel
theorem dXR_second_167 : decode cXR_second 167 = .ok (.aload_n 0, 1) := by decide +kernel
theorem dXR_second_168 : decode cXR_second 168 = .ok (.aload_n 0, 1) := by decide +kernel
theorem dXR_second_169 : decode cXR_second 169 = .ok (.getfield 104, 3) := by decide +kernel
theorem dXR_second_172 : decode cXR_second 172 = .ok (.putfield 110, 3) := by decide +kernel
theorem dXR_second_175 : decode cXR_second 175 = .ok (.iconst 4, 1) := by decide +kernel
theorem dXR_second_176 : decode cXR_second 176 = .ok (.ireturn, 1) := by decide +kernel
theorem dXR_second_177 : decode cXR_second 177 = .ok (.aload_n 0, 1) := by decide +kernel
theorem dXR_second_178 : decode cXR_second 178 = .ok (.aload_n 0, 1) := by decide +kernel
theorem dXR_second_179 : decode cXR_second 179 = .ok (.getfield 104, 3) := by decide +kernel
theorem dXR_second_182 : decode cXR_second 182 = .ok (.iconst 1, 1) := by decide +kernel
theorem dXR_second_183 : decode cXR_second 183 = .ok (.iadd, 1) := by decide +kernel
theorem dXR_second_184 : decode cXR_second 184 = .ok (.invokevirtual 262, 3) := by decide +kernel
theorem dXR_second_187 : decode cXR_second 187 = .ok (.iconst 4, 1) := by decide +kernel
theorem dXR_second_188 : decode cXR_second 188 = .ok (.ireturn, 1) := by decide +kernel
theorem dXR_second_189 : decode cXR_second 189 = .ok (.aload_n 0, 1) := by decide +kernel
theorem dXR_second_190 : decode cXR_second 190 = .ok (.aload_n 0, 1) := by decide +kernel
theorem dXR_second_191 : decode cXR_second 191 = .ok (.getfield 104, 3) := by decide +kernel
theorem dXR_second_194 : decode cXR_second 194 = .ok (.aload_n 0, 1) := by decide +kernel
theorem dXR_second_195 : decode cXR_second 195 = .ok (.getfield 107, 3) := by decide +kernel
theorem dXR_second_198 : decode cXR_second 198 = .ok (.iadd, 1) := by decide +kernel
theorem dXR_second_199 : decode cXR_second 199 = .ok (.invokevirtual 262, 3) := by decide +kernel
theorem dXR_second_202 : decode cXR_second 202 = .ok (.iconst 4, 1) := by decide +kernel
theorem dXR_second_203 : decode cXR_second 203 = .ok (.ireturn, 1) := by decide +kernel
theorem dXR_second_204 : decode cXR_second 204 = .ok (.aload_n 0, 1) := by decide +kernel
theorem dXR_second_205 : decode cXR_second 205 = .ok (.aload_n 0, 1) := by decide +kernel
theorem dXR_second_206 : decode cXR_second 206 = .ok (.getfield 104, 3) := by decide +kernel
theorem dXR_second_209 : decode cXR_second 209 = .ok (.iconst 1, 1) := by decide +kernel
theorem dXR_second_210 : decode cXR_second 210 = .ok (.isub, 1) := by decide +kernel
theorem dXR_second_211 : decode cXR_second 211 = .ok (.invokevirtual 262, 3) := by decide +kernel
theorem dXR_second_214 : decode cXR_second 214 = .ok (.iconst 4, 1) := by decide +kernel
theorem dXR_second_215 : decode cXR_second 215 = .ok (.ireturn, 1) := by decide +kernel
theorem dXR_second_216 : decode cXR_second 216 = .ok (.aload_n 0, 1) := by decide +kernel
theorem dXR_second_217 : decode cXR_second 217 = .ok (.invokevirtual 265, 3) := by decide +kernel
theorem dXR_second_220 : decode cXR_second 220 = .ok (.istore_n 2, 1) := by decide +kernel
theorem dXR_second_221 : decode cXR_second 221 = .ok (.iload_n 2, 1) := by decide +kernel
theorem dXR_second_222 : decode cXR_second 222 = .ok (.ldc 178, 2) := by decide +kernel
theorem dXR_second_224 : decode cXR_second 224 = .ok (.if_icmp .ge 17, 3) := by decide +kernel
theorem dXR_second_227 : decode cXR_second 227 = .ok (.aload_n 0, 1) := by decide +kernel
theorem dXR_second_228 : decode cXR_second 228 = .ok (.getfield 19, 3) := by decide +kernel
theorem dXR_second_231 : decode cXR_second 231 = .ok (.iload_n 2, 1) := by decide +kernel
theorem dXR_second_232 : decode cXR_second 232 = .ok (.sipush 128, 3) := by decide +kernel
theorem dXR_second_235 : decode cXR_second 235 = .ok (.irem, 1) := by decide +kernel
theorem dXR_second_236 : decode cXR_second 236 = .ok (.aload_n 0, 1) := by decide +kernel
theorem dXR_second_237 : decode cXR_second 237 = .ok (.getfield 104, 3) := by decide +kernel
theorem dXR_second_240 : decode cXR_second 240 = .ok (.iastore, 1) := by decide +kernel
theorem dXR_second_241 : decode cXR_second 241 = .ok (.bipush 13, 2) := by decide +kernel
theorem dXR_second_243 : decode cXR_second 243 = .ok (.ireturn, 1) := by decide +kernel
theorem dXR_second_244 : decode cXR_second 244 = .ok (.aload_n 0, 1) := by decide +kernel
theorem dXR_second_245 : decode cXR_second 245 = .ok (.aload_n 0, 1) := by decide +kernel
theorem dXR_second_246 : decode cXR_second 246 = .ok (.aload_n 0, 1) := by decide +kernel
theorem dXR_second_247 : decode cXR_second 247 = .ok (.invokevirtual 265, 3) := by decide +kernel
theorem dXR_second_250 : decode cXR_second 250 = .ok (.invokevirtual 256, 3) := by decide +kernel
theorem dXR_second_253 : decode cXR_second 253 = .ok (.putfield 104, 3) := by decide +kernel
theorem dXR_second_256 : decode cXR_second 256 = .ok (.bipush 13, 2) := by decide +kernel
theorem dXR_second_258 : decode cXR_second 258 = .ok (.ireturn, 1) := by decide +kernel
theorem dXR_second_259 : decode cXR_second 259 = .ok (.aload_n 0, 1) := by decide +kernel
theorem dXR_second_260 : decode cXR_second 260 = .ok (.invokevirtual 259, 3) := by decide +kernel
theorem dXR_second_263 : decode cXR_second 263 = .ok (.istore_n 3, 1) := by decide +kernel
theorem dXR_second_264 : decode cXR_second 264 = .ok (.aload_n 0, 1) := by decide +kernel
theorem dXR_second_265 : decode cXR_second 265 = .ok (.getfield 116, 3) := by decide +kernel
theorem dXR_second_268 : decode cXR_second 268 = .ok (.ifCond .eq 6, 3) := by decide +kernel
theorem dXR_second_271 : decode cXR_second 271 = .ok (.bipush 7, 2) := by decide +kernel
theorem dXR_second_273 : decode cXR_second 273 = .ok (.ireturn, 1) := by decide +kernel
theorem dXR_second_274 : decode cXR_second 274 = .ok (.aload_n 0, 1) := by decide +kernel
theorem dXR_second_275 : decode cXR_second 275 = .ok (.aload_n 0, 1) := by decide +kernel
theorem dXR_second_276 : decode cXR_second 276 = .ok (.getfield 113, 3) := by decide +kernel
theorem dXR_second_279 : decode cXR_second 279 = .ok (.iload_n 3, 1) := by decide +kernel
theorem dXR_second_280 : decode cXR_second 280 = .ok (.bipush 127, 2) := by decide +kernel
theorem dXR_second_282 : decode cXR_second 282 = .ok (.if_icmp .le 11, 3) := by decide +kernel
theorem dXR_second_285 : decode cXR_second 285 = .ok (.iload_n 3, 1) := by decide +kernel
theorem dXR_second_286 : decode cXR_second 286 = .ok (.sipush 256, 3) := by decide +kernel
theorem dXR_second_289 : decode cXR_second 289 = .ok (.isub, 1) := by decide +kernel
theorem dXR_second_290 : decode cXR_second 290 = .ok (.goto 4, 3) := by decide +kernel
theorem dXR_second_293 : decode cXR_second 293 = .ok (.iload_n 3, 1) := by decide +kernel
theorem dXR_second_294 : decode cXR_second 294 = .ok (.iadd, 1) := by decide +kernel
theorem dXR_second_295 : decode cXR_second 295 = .ok (.ldc 131, 2) := by decide +kernel
theorem dXR_second_297 : decode cXR_second 297 = .ok (.iand, 1) := by decide +kernel
theorem dXR_second_298 : decode cXR_second 298 = .ok (.putfield 113, 3) := by decide +kernel
theorem dXR_second_301 : decode cXR_second 301 = .ok (.bipush 12, 2) := by decide +kernel
theorem dXR_second_303 : decode cXR_second 303 = .ok (.ireturn, 1) := by decide +kernel
theorem dXR_second_304 : decode cXR_second 304 = .ok (.aload_n 0, 1) := by decide +kernel
theorem dXR_second_305 : decode cXR_second 305 = .ok (.aload_n 0, 1) := by decide +kernel
theorem dXR_second_306 : decode cXR_second 306 = .ok (.invokevirtual 265, 3) := by decide +kernel
theorem dXR_second_309 : decode cXR_second 309 = .ok (.putfield 113, 3) := by decide +kernel
theorem dXR_second_312 : decode cXR_second 312 = .ok (.bipush 10, 2) := by decide +kernel
theorem dXR_second_314 : decode cXR_second 314 = .ok (.ireturn, 1) := by decide +kernel
theorem dXR_second_315 : decode cXR_second 315 = .ok (.aload_n 0, 1) := by decide +kernel
theorem dXR_second_316 : decode cXR_second 316 = .ok (.iconst 1, 1) := by decide +kernel
theorem dXR_second_317 : decode cXR_second 317 = .ok (.putfield 119, 3) := by decide +kernel
theorem dXR_second_320 : decode cXR_second 320 = .ok (.iconst 4, 1) := by decide +kernel
theorem dXR_second_321 : decode cXR_second 321 = .ok (.ireturn, 1) := by decide +kernel
theorem dXR_second_322 : decode cXR_second 322 = .ok (.aload_n 0, 1) := by decide +kernel
theorem dXR_second_323 : decode cXR_second 323 = .ok (.iconst 1, 1) := by decide +kernel
theorem dXR_second_324 : decode cXR_second 324 = .ok (.putfield 122, 3) := by decide +kernel
theorem dXR_second_327 : decode cXR_second 327 = .ok (.iconst 4, 1) := by decide +kernel
theorem dXR_second_328 : decode cXR_second 328 = .ok (.ireturn, 1) := by decide +kernel
theorem dXR_second_329 : decode cXR_second 329 = .ok (.aload_n 0, 1) := by decide +kernel
theorem dXR_second_330 : decode cXR_second 330 = .ok (.iconst 0, 1) := by decide +kernel
theorem dXR_second_331 : decode cXR_second 331 = .ok (.putfield 122, 3) := by decide +kernel
theorem dXR_second_334 : decode cXR_second 334 = .ok (.iconst 4, 1) := by decide +kernel
theorem dXR_second_335 : decode cXR_second 335 = .ok (.ireturn, 1) := by decide +kernel
theorem dXR_second_336 : decode cXR_second 336 = .ok (.aload_n 0, 1) := by decide +kernel
theorem dXR_second_337 : decode cXR_second 337 = .ok (.aload_n 0, 1) := by decide +kernel
theorem dXR_second_338 : decode cXR_second 338 = .ok (.getfield 110, 3) := by decide +kernel
theorem dXR_second_341 : decode cXR_second 341 = .ok (.putfield 113, 3) := by decide +kernel
theorem dXR_second_344 : decode cXR_second 344 = .ok (.bipush 10, 2) := by decide +kernel
theorem dXR_second_346 : decode cXR_second 346 = .ok (.ireturn, 1) := by decide +kernel
theorem dXR_second_347 : decode cXR_second 347 = .ok (.iconst 4, 1) := by decide +kernel
theorem dXR_second_348 : decode cXR_second 348 = .ok (.ireturn, 1) := by decide +kernel
theorem dXR_give_0 : decode cXR_give 0 = .ok (.aload_n 0, 1) := by decide +kernel
theorem dXR_give_1 : decode cXR_give 1 = .ok (.invokevirtual 47, 3) := by decide +kernel
theorem dXR_give_4 : decode cXR_give 4 = .ok (.ifCond .eq 4, 3) := by decide +kernel
theorem dXR_give_7 : decode cXR_give 7 = .ok (.return_, 1) := by decide +kernel
theorem dXR_give_8 : decode cXR_give 8 = .ok (.aload_n 0, 1) := by decide +kernel
theorem dXR_give_9 : decode cXR_give 9 = .ok (.dup, 1) := by decide +kernel
theorem dXR_give_10 : decode cXR_give 10 = .ok (.getfield 125, 3) := by decide +kernel
theorem dXR_give_13 : decode cXR_give 13 = .ok (.iload_n 1, 1) := by decide +kernel
theorem dXR_give_14 : decode cXR_give 14 = .ok (.iadd, 1) := by decide +kernel
theorem dXR_give_15 : decode cXR_give 15 = .ok (.putfield 125, 3) := by decide +kernel
theorem dXR_give_18 : decode cXR_give 18 = .ok (.aload_n 0, 1) := by decide +kernel
theorem dXR_give_19 : decode cXR_give 19 = .ok (.getfield 125, 3) := by decide +kernel
theorem dXR_give_22 : decode cXR_give 22 = .ok (.ifCond .le 42, 3) := by decide +kernel
theorem dXR_give_25 : decode cXR_give 25 = .ok (.aload_n 0, 1) := by decide +kernel
theorem dXR_give_26 : decode cXR_give 26 = .ok (.iconst 0, 1) := by decide +kernel
theorem dXR_give_27 : decode cXR_give 27 = .ok (.putfield 253, 3) := by decide +kernel
theorem dXR_give_30 : decode cXR_give 30 = .ok (.aload_n 0, 1) := by decide +kernel
theorem dXR_give_31 : decode cXR_give 31 = .ok (.getfield 119, 3) := by decide +kernel
theorem dXR_give_34 : decode cXR_give 34 = .ok (.ifCond .eq 7, 3) := by decide +kernel
theorem dXR_give_37 : decode cXR_give 37 = .ok (.iconst 4, 1) := by decide +kernel
theorem dXR_give_38 : decode cXR_give 38 = .ok (.goto 7, 3) := by decide +kernel
theorem dXR_give_41 : decode cXR_give 41 = .ok (.aload_n 0, 1) := by decide +kernel
theorem dXR_give_42 : decode cXR_give 42 = .ok (.invokevirtual 268, 3) := by decide +kernel
theorem dXR_give_45 : decode cXR_give 45 = .ok (.istore_n 2, 1) := by decide +kernel
theorem dXR_give_46 : decode cXR_give 46 = .ok (.aload_n 0, 1) := by decide +kernel
theorem dXR_give_47 : decode cXR_give 47 = .ok (.dup, 1) := by decide +kernel
theorem dXR_give_48 : decode cXR_give 48 = .ok (.getfield 125, 3) := by decide +kernel
theorem dXR_give_51 : decode cXR_give 51 = .ok (.iload_n 2, 1) := by decide +kernel
theorem dXR_give_52 : decode cXR_give 52 = .ok (.aload_n 0, 1) := by decide +kernel
theorem dXR_give_53 : decode cXR_give 53 = .ok (.getfield 253, 3) := by decide +kernel
theorem dXR_give_56 : decode cXR_give 56 = .ok (.iadd, 1) := by decide +kernel
theorem dXR_give_57 : decode cXR_give 57 = .ok (.isub, 1) := by decide +kernel
theorem dXR_give_58 : decode cXR_give 58 = .ok (.putfield 125, 3) := by decide +kernel
theorem dXR_give_61 : decode cXR_give 61 = .ok (.goto (-43), 3) := by decide +kernel
theorem dXR_give_64 : decode cXR_give 64 = .ok (.return_, 1) := by decide +kernel
theorem dXR_tellSecond_0 : decode cXR_tellSecond 0 = .ok (.aload_n 0, 1) := by decide +kernel
theorem dXR_tellSecond_1 : decode cXR_tellSecond 1 = .ok (.invokevirtual 47, 3) := by decide +kernel
theorem dXR_tellSecond_4 : decode cXR_tellSecond 4 = .ok (.ifCond .ne 10, 3) := by decide +kernel
theorem dXR_tellSecond_7 : decode cXR_tellSecond 7 = .ok (.aload_n 0, 1) := by decide +kernel
theorem dXR_tellSecond_8 : decode cXR_tellSecond 8 = .ok (.getfield 122, 3) := by decide +kernel
theorem dXR_tellSecond_11 : decode cXR_tellSecond 11 = .ok (.ifCond .ne 4, 3) := by decide +kernel
theorem dXR_tellSecond_14 : decode cXR_tellSecond 14 = .ok (.return_, 1) := by decide +kernel
theorem dXR_tellSecond_15 : decode cXR_tellSecond 15 = .ok (.aload_n 0, 1) := by decide +kernel
theorem dXR_tellSecond_16 : decode cXR_tellSecond 16 = .ok (.aload_n 0, 1) := by decide +kernel
theorem dXR_tellSecond_17 : decode cXR_tellSecond 17 = .ok (.getfield 113, 3) := by decide +kernel
theorem dXR_tellSecond_20 : decode cXR_tellSecond 20 = .ok (.sipush 255, 3) := by decide +kernel
theorem dXR_tellSecond_23 : decode cXR_tellSecond 23 = .ok (.iand, 1) := by decide +kernel
theorem dXR_tellSecond_24 : decode cXR_tellSecond 24 = .ok (.putfield 110, 3) := by decide +kernel
theorem dXR_tellSecond_27 : decode cXR_tellSecond 27 = .ok (.aload_n 0, 1) := by decide +kernel
theorem dXR_tellSecond_28 : decode cXR_tellSecond 28 = .ok (.bipush 56, 2) := by decide +kernel
theorem dXR_tellSecond_30 : decode cXR_tellSecond 30 = .ok (.putfield 113, 3) := by decide +kernel
theorem dXR_tellSecond_33 : decode cXR_tellSecond 33 = .ok (.aload_n 0, 1) := by decide +kernel
theorem dXR_tellSecond_34 : decode cXR_tellSecond 34 = .ok (.iconst 0, 1) := by decide +kernel
theorem dXR_tellSecond_35 : decode cXR_tellSecond 35 = .ok (.putfield 122, 3) := by decide +kernel
theorem dXR_tellSecond_38 : decode cXR_tellSecond 38 = .ok (.aload_n 0, 1) := by decide +kernel
theorem dXR_tellSecond_39 : decode cXR_tellSecond 39 = .ok (.iconst 0, 1) := by decide +kernel
theorem dXR_tellSecond_40 : decode cXR_tellSecond 40 = .ok (.putfield 119, 3) := by decide +kernel
theorem dXR_tellSecond_43 : decode cXR_tellSecond 43 = .ok (.aload_n 0, 1) := by decide +kernel
theorem dXR_tellSecond_44 : decode cXR_tellSecond 44 = .ok (.dup, 1) := by decide +kernel
theorem dXR_tellSecond_45 : decode cXR_tellSecond 45 = .ok (.getfield 125, 3) := by decide +kernel
theorem dXR_tellSecond_48 : decode cXR_tellSecond 48 = .ok (.bipush 13, 2) := by decide +kernel
theorem dXR_tellSecond_50 : decode cXR_tellSecond 50 = .ok (.isub, 1) := by decide +kernel
theorem dXR_tellSecond_51 : decode cXR_tellSecond 51 = .ok (.putfield 125, 3) := by decide +kernel
theorem dXR_tellSecond_54 : decode cXR_tellSecond 54 = .ok (.return_, 1) := by decide +kernel
theorem dXR_goOn_0 : decode cXR_goOn 0 = .ok (.aload_n 0, 1) := by decide +kernel
theorem dXR_goOn_1 : decode cXR_goOn 1 = .ok (.dup, 1) := by decide +kernel
theorem dXR_goOn_2 : decode cXR_goOn 2 = .ok (.getfield 87, 3) := by decide +kernel
theorem dXR_goOn_5 : decode cXR_goOn 5 = .ok (.iload_n 1, 1) := by decide +kernel
theorem dXR_goOn_6 : decode cXR_goOn 6 = .ok (.iadd, 1) := by decide +kernel
theorem dXR_goOn_7 : decode cXR_goOn 7 = .ok (.putfield 87, 3) := by decide +kernel
theorem dXR_goOn_10 : decode cXR_goOn 10 = .ok (.aload_n 0, 1) := by decide +kernel
theorem dXR_goOn_11 : decode cXR_goOn 11 = .ok (.getfield 87, 3) := by decide +kernel
theorem dXR_goOn_14 : decode cXR_goOn 14 = .ok (.bipush 64, 2) := by decide +kernel
theorem dXR_goOn_16 : decode cXR_goOn 16 = .ok (.if_icmp .lt 34, 3) := by decide +kernel
theorem dXR_goOn_19 : decode cXR_goOn 19 = .ok (.aload_n 0, 1) := by decide +kernel
theorem dXR_goOn_20 : decode cXR_goOn 20 = .ok (.dup, 1) := by decide +kernel
theorem dXR_goOn_21 : decode cXR_goOn 21 = .ok (.getfield 87, 3) := by decide +kernel
theorem dXR_goOn_24 : decode cXR_goOn 24 = .ok (.bipush 64, 2) := by decide +kernel
theorem dXR_goOn_26 : decode cXR_goOn 26 = .ok (.isub, 1) := by decide +kernel
theorem dXR_goOn_27 : decode cXR_goOn 27 = .ok (.putfield 87, 3) := by decide +kernel
theorem dXR_goOn_30 : decode cXR_goOn 30 = .ok (.aload_n 0, 1) := by decide +kernel
theorem dXR_goOn_31 : decode cXR_goOn 31 = .ok (.aload_n 0, 1) := by decide +kernel
theorem dXR_goOn_32 : decode cXR_goOn 32 = .ok (.getfield 55, 3) := by decide +kernel
theorem dXR_goOn_35 : decode cXR_goOn 35 = .ok (.iconst 1, 1) := by decide +kernel
theorem dXR_goOn_36 : decode cXR_goOn 36 = .ok (.iadd, 1) := by decide +kernel
theorem dXR_goOn_37 : decode cXR_goOn 37 = .ok (.bipush 12, 2) := by decide +kernel
theorem dXR_goOn_39 : decode cXR_goOn 39 = .ok (.irem, 1) := by decide +kernel
theorem dXR_goOn_40 : decode cXR_goOn 40 = .ok (.putfield 55, 3) := by decide +kernel
theorem dXR_goOn_43 : decode cXR_goOn 43 = .ok (.aload_n 0, 1) := by decide +kernel
theorem dXR_goOn_44 : decode cXR_goOn 44 = .ok (.invokevirtual 271, 3) := by decide +kernel
theorem dXR_goOn_47 : decode cXR_goOn 47 = .ok (.goto (-37), 3) := by decide +kernel
theorem dXR_goOn_50 : decode cXR_goOn 50 = .ok (.return_, 1) := by decide +kernel
theorem dXR_beginLine_0 : decode cXR_beginLine 0 = .ok (.aload_n 0, 1) := by decide +kernel
theorem dXR_beginLine_1 : decode cXR_beginLine 1 = .ok (.getfield 55, 3) := by decide +kernel
theorem dXR_beginLine_4 : decode cXR_beginLine 4 = .ok (.bipush 8, 2) := by decide +kernel
theorem dXR_beginLine_6 : decode cXR_beginLine 6 = .ok (.if_icmp .ge 67, 3) := by decide +kernel
theorem dXR_beginLine_9 : decode cXR_beginLine 9 = .ok (.aload_n 0, 1) := by decide +kernel
theorem dXR_beginLine_10 : decode cXR_beginLine 10 = .ok (.invokevirtual 274, 3) := by decide +kernel
theorem dXR_beginLine_13 : decode cXR_beginLine 13 = .ok (.aload_n 0, 1) := by decide +kernel
theorem dXR_beginLine_14 : decode cXR_beginLine 14 = .ok (.getfield 277, 3) := by decide +kernel
theorem dXR_beginLine_17 : decode cXR_beginLine 17 = .ok (.ifCond .ne 45, 3) := by decide +kernel
theorem dXR_beginLine_20 : decode cXR_beginLine 20 = .ok (.aload_n 0, 1) := by decide +kernel
theorem dXR_beginLine_21 : decode cXR_beginLine 21 = .ok (.aload_n 0, 1) := by decide +kernel
theorem dXR_beginLine_22 : decode cXR_beginLine 22 = .ok (.getfield 35, 3) := by decide +kernel
end
section
theorem dXR_beginLine_25 : decode cXR_beginLine 25 = .ok (.bipush 8, 2) := by decide +kernel
theorem dXR_beginLine_27 : decode cXR_beginLine 27 = .ok (.iaload, 1) := by decide +kernel
theorem dXR_beginLine_28 : decode cXR_beginLine 28 = .ok (.putfield 277, 3) := by decide +kernel
theorem dXR_beginLine_31 : decode cXR_beginLine 31 = .ok (.aload_n 0, 1) := by decide +kernel
theorem dXR_beginLine_32 : decode cXR_beginLine 32 = .ok (.aload_n 0, 1) := by decide +kernel
theorem dXR_beginLine_33 : decode cXR_beginLine 33 = .ok (.getfield 241, 3) := by decide +kernel
theorem dXR_beginLine_36 : decode cXR_beginLine 36 = .ok (.ifCond .ne 15, 3) := by decide +kernel
theorem dXR_beginLine_39 : decode cXR_beginLine 39 = .ok (.aload_n 0, 1) := by decide +kernel
theorem dXR_beginLine_40 : decode cXR_beginLine 40 = .ok (.getfield 35, 3) := by decide +kernel
theorem dXR_beginLine_43 : decode cXR_beginLine 43 = .ok (.iconst 0, 1) := by decide +kernel
theorem dXR_beginLine_44 : decode cXR_beginLine 44 = .ok (.iaload, 1) := by decide +kernel
theorem dXR_beginLine_45 : decode cXR_beginLine 45 = .ok (.bipush 16, 2) := by decide +kernel
theorem dXR_beginLine_47 : decode cXR_beginLine 47 = .ok (.iand, 1) := by decide +kernel
theorem dXR_beginLine_48 : decode cXR_beginLine 48 = .ok (.ifCond .eq 7, 3) := by decide +kernel
theorem dXR_beginLine_51 : decode cXR_beginLine 51 = .ok (.iconst 1, 1) := by decide +kernel
theorem dXR_beginLine_52 : decode cXR_beginLine 52 = .ok (.goto 4, 3) := by decide +kernel
theorem dXR_beginLine_55 : decode cXR_beginLine 55 = .ok (.iconst 0, 1) := by decide +kernel
theorem dXR_beginLine_56 : decode cXR_beginLine 56 = .ok (.putfield 241, 3) := by decide +kernel
theorem dXR_beginLine_59 : decode cXR_beginLine 59 = .ok (.goto 13, 3) := by decide +kernel
theorem dXR_beginLine_62 : decode cXR_beginLine 62 = .ok (.aload_n 0, 1) := by decide +kernel
theorem dXR_beginLine_63 : decode cXR_beginLine 63 = .ok (.dup, 1) := by decide +kernel
theorem dXR_beginLine_64 : decode cXR_beginLine 64 = .ok (.getfield 277, 3) := by decide +kernel
theorem dXR_beginLine_67 : decode cXR_beginLine 67 = .ok (.iconst 1, 1) := by decide +kernel
theorem dXR_beginLine_68 : decode cXR_beginLine 68 = .ok (.isub, 1) := by decide +kernel
theorem dXR_beginLine_69 : decode cXR_beginLine 69 = .ok (.putfield 277, 3) := by decide +kernel
theorem dXR_beginLine_72 : decode cXR_beginLine 72 = .ok (.return_, 1) := by decide +kernel
theorem dXR_beginLine_73 : decode cXR_beginLine 73 = .ok (.aload_n 0, 1) := by decide +kernel
theorem dXR_beginLine_74 : decode cXR_beginLine 74 = .ok (.aload_n 0, 1) := by decide +kernel
theorem dXR_beginLine_75 : decode cXR_beginLine 75 = .ok (.getfield 35, 3) := by decide +kernel
theorem dXR_beginLine_78 : decode cXR_beginLine 78 = .ok (.bipush 8, 2) := by decide +kernel
theorem dXR_beginLine_80 : decode cXR_beginLine 80 = .ok (.iaload, 1) := by decide +kernel
theorem dXR_beginLine_81 : decode cXR_beginLine 81 = .ok (.putfield 277, 3) := by decide +kernel
theorem dXR_beginLine_84 : decode cXR_beginLine 84 = .ok (.aload_n 0, 1) := by decide +kernel
theorem dXR_beginLine_85 : decode cXR_beginLine 85 = .ok (.getfield 55, 3) := by decide +kernel
theorem dXR_beginLine_88 : decode cXR_beginLine 88 = .ok (.bipush 8, 2) := by decide +kernel
theorem dXR_beginLine_90 : decode cXR_beginLine 90 = .ok (.if_icmp .ne 35, 3) := by decide +kernel
theorem dXR_beginLine_93 : decode cXR_beginLine 93 = .ok (.aload_n 0, 1) := by decide +kernel
theorem dXR_beginLine_94 : decode cXR_beginLine 94 = .ok (.aload_n 0, 1) := by decide +kernel
theorem dXR_beginLine_95 : decode cXR_beginLine 95 = .ok (.getfield 58, 3) := by decide +kernel
theorem dXR_beginLine_98 : decode cXR_beginLine 98 = .ok (.ifCond .ne 15, 3) := by decide +kernel
theorem dXR_beginLine_101 : decode cXR_beginLine 101 = .ok (.aload_n 0, 1) := by decide +kernel
theorem dXR_beginLine_102 : decode cXR_beginLine 102 = .ok (.getfield 35, 3) := by decide +kernel
theorem dXR_beginLine_105 : decode cXR_beginLine 105 = .ok (.iconst 1, 1) := by decide +kernel
theorem dXR_beginLine_106 : decode cXR_beginLine 106 = .ok (.iaload, 1) := by decide +kernel
theorem dXR_beginLine_107 : decode cXR_beginLine 107 = .ok (.bipush 32, 2) := by decide +kernel
theorem dXR_beginLine_109 : decode cXR_beginLine 109 = .ok (.iand, 1) := by decide +kernel
theorem dXR_beginLine_110 : decode cXR_beginLine 110 = .ok (.ifCond .eq 7, 3) := by decide +kernel
theorem dXR_beginLine_113 : decode cXR_beginLine 113 = .ok (.iconst 1, 1) := by decide +kernel
theorem dXR_beginLine_114 : decode cXR_beginLine 114 = .ok (.goto 4, 3) := by decide +kernel
theorem dXR_beginLine_117 : decode cXR_beginLine 117 = .ok (.iconst 0, 1) := by decide +kernel
theorem dXR_beginLine_118 : decode cXR_beginLine 118 = .ok (.putfield 58, 3) := by decide +kernel
theorem dXR_beginLine_121 : decode cXR_beginLine 121 = .ok (.aload_n 0, 1) := by decide +kernel
theorem dXR_beginLine_122 : decode cXR_beginLine 122 = .ok (.invokevirtual 280, 3) := by decide +kernel
theorem dXR_beginLine_125 : decode cXR_beginLine 125 = .ok (.return_, 1) := by decide +kernel
theorem dXR_patternPixel_0 : decode cXR_patternPixel 0 = .ok (.iload_n 1, 1) := by decide +kernel
theorem dXR_patternPixel_1 : decode cXR_patternPixel 1 = .ok (.bipush 11, 2) := by decide +kernel
theorem dXR_patternPixel_3 : decode cXR_patternPixel 3 = .ok (.ishr, 1) := by decide +kernel
theorem dXR_patternPixel_4 : decode cXR_patternPixel 4 = .ok (.iconst 1, 1) := by decide +kernel
theorem dXR_patternPixel_5 : decode cXR_patternPixel 5 = .ok (.iand, 1) := by decide +kernel
theorem dXR_patternPixel_6 : decode cXR_patternPixel 6 = .ok (.iconst 1, 1) := by decide +kernel
theorem dXR_patternPixel_7 : decode cXR_patternPixel 7 = .ok (.if_icmp .ne 9, 3) := by decide +kernel
theorem dXR_patternPixel_10 : decode cXR_patternPixel 10 = .ok (.iconst 3, 1) := by decide +kernel
theorem dXR_patternPixel_11 : decode cXR_patternPixel 11 = .ok (.iload_n 2, 1) := by decide +kernel
theorem dXR_patternPixel_12 : decode cXR_patternPixel 12 = .ok (.isub, 1) := by decide +kernel
theorem dXR_patternPixel_13 : decode cXR_patternPixel 13 = .ok (.goto 4, 3) := by decide +kernel
theorem dXR_patternPixel_16 : decode cXR_patternPixel 16 = .ok (.iload_n 2, 1) := by decide +kernel
theorem dXR_patternPixel_17 : decode cXR_patternPixel 17 = .ok (.istore 4, 2) := by decide +kernel
theorem dXR_patternPixel_19 : decode cXR_patternPixel 19 = .ok (.iload_n 1, 1) := by decide +kernel
theorem dXR_patternPixel_20 : decode cXR_patternPixel 20 = .ok (.bipush 12, 2) := by decide +kernel
theorem dXR_patternPixel_22 : decode cXR_patternPixel 22 = .ok (.ishr, 1) := by decide +kernel
theorem dXR_patternPixel_23 : decode cXR_patternPixel 23 = .ok (.iconst 1, 1) := by decide +kernel
theorem dXR_patternPixel_24 : decode cXR_patternPixel 24 = .ok (.iand, 1) := by decide +kernel
theorem dXR_patternPixel_25 : decode cXR_patternPixel 25 = .ok (.iconst 1, 1) := by decide +kernel
theorem dXR_patternPixel_26 : decode cXR_patternPixel 26 = .ok (.if_icmp .ne 9, 3) := by decide +kernel
theorem dXR_patternPixel_29 : decode cXR_patternPixel 29 = .ok (.iconst 3, 1) := by decide +kernel
theorem dXR_patternPixel_30 : decode cXR_patternPixel 30 = .ok (.iload_n 3, 1) := by decide +kernel
theorem dXR_patternPixel_31 : decode cXR_patternPixel 31 = .ok (.isub, 1) := by decide +kernel
theorem dXR_patternPixel_32 : decode cXR_patternPixel 32 = .ok (.goto 4, 3) := by decide +kernel
theorem dXR_patternPixel_35 : decode cXR_patternPixel 35 = .ok (.iload_n 3, 1) := by decide +kernel
theorem dXR_patternPixel_36 : decode cXR_patternPixel 36 = .ok (.istore 5, 2) := by decide +kernel
theorem dXR_patternPixel_38 : decode cXR_patternPixel 38 = .ok (.aload_n 0, 1) := by decide +kernel
theorem dXR_patternPixel_39 : decode cXR_patternPixel 39 = .ok (.iconst 4, 1) := by decide +kernel
theorem dXR_patternPixel_40 : decode cXR_patternPixel 40 = .ok (.iload_n 1, 1) := by decide +kernel
theorem dXR_patternPixel_41 : decode cXR_patternPixel 41 = .ok (.bipush 127, 2) := by decide +kernel
theorem dXR_patternPixel_43 : decode cXR_patternPixel 43 = .ok (.iand, 1) := by decide +kernel
theorem dXR_patternPixel_44 : decode cXR_patternPixel 44 = .ok (.imul, 1) := by decide +kernel
theorem dXR_patternPixel_45 : decode cXR_patternPixel 45 = .ok (.iload 5, 2) := by decide +kernel
theorem dXR_patternPixel_47 : decode cXR_patternPixel 47 = .ok (.iadd, 1) := by decide +kernel
theorem dXR_patternPixel_48 : decode cXR_patternPixel 48 = .ok (.invokevirtual 135, 3) := by decide +kernel
theorem dXR_patternPixel_51 : decode cXR_patternPixel 51 = .ok (.bipush 12, 2) := by decide +kernel
theorem dXR_patternPixel_53 : decode cXR_patternPixel 53 = .ok (.iconst 4, 1) := by decide +kernel
theorem dXR_patternPixel_54 : decode cXR_patternPixel 54 = .ok (.iload 4, 2) := by decide +kernel
theorem dXR_patternPixel_56 : decode cXR_patternPixel 56 = .ok (.imul, 1) := by decide +kernel
theorem dXR_patternPixel_57 : decode cXR_patternPixel 57 = .ok (.isub, 1) := by decide +kernel
theorem dXR_patternPixel_58 : decode cXR_patternPixel 58 = .ok (.ishr, 1) := by decide +kernel
theorem dXR_patternPixel_59 : decode cXR_patternPixel 59 = .ok (.bipush 15, 2) := by decide +kernel
theorem dXR_patternPixel_61 : decode cXR_patternPixel 61 = .ok (.iand, 1) := by decide +kernel
theorem dXR_patternPixel_62 : decode cXR_patternPixel 62 = .ok (.istore 6, 2) := by decide +kernel
theorem dXR_patternPixel_64 : decode cXR_patternPixel 64 = .ok (.iload 6, 2) := by decide +kernel
theorem dXR_patternPixel_66 : decode cXR_patternPixel 66 = .ok (.ifCond .ne 7, 3) := by decide +kernel
theorem dXR_patternPixel_69 : decode cXR_patternPixel 69 = .ok (.iconst 0, 1) := by decide +kernel
theorem dXR_patternPixel_70 : decode cXR_patternPixel 70 = .ok (.goto 15, 3) := by decide +kernel
theorem dXR_patternPixel_73 : decode cXR_patternPixel 73 = .ok (.iload 6, 2) := by decide +kernel
theorem dXR_patternPixel_75 : decode cXR_patternPixel 75 = .ok (.iload_n 1, 1) := by decide +kernel
theorem dXR_patternPixel_76 : decode cXR_patternPixel 76 = .ok (.bipush 15, 2) := by decide +kernel
theorem dXR_patternPixel_78 : decode cXR_patternPixel 78 = .ok (.ishr, 1) := by decide +kernel
theorem dXR_patternPixel_79 : decode cXR_patternPixel 79 = .ok (.iconst 1, 1) := by decide +kernel
theorem dXR_patternPixel_80 : decode cXR_patternPixel 80 = .ok (.iand, 1) := by decide +kernel
theorem dXR_patternPixel_81 : decode cXR_patternPixel 81 = .ok (.bipush 16, 2) := by decide +kernel
theorem dXR_patternPixel_83 : decode cXR_patternPixel 83 = .ok (.imul, 1) := by decide +kernel
theorem dXR_patternPixel_84 : decode cXR_patternPixel 84 = .ok (.iadd, 1) := by decide +kernel
theorem dXR_patternPixel_85 : decode cXR_patternPixel 85 = .ok (.ireturn, 1) := by decide +kernel
theorem dXR_planePixel_0 : decode cXR_planePixel 0 = .ok (.aload_n 0, 1) := by decide +kernel
theorem dXR_planePixel_1 : decode cXR_planePixel 1 = .ok (.aload_n 0, 1) := by decide +kernel
theorem dXR_planePixel_2 : decode cXR_planePixel 2 = .ok (.iload_n 1, 1) := by decide +kernel
theorem dXR_planePixel_3 : decode cXR_planePixel 3 = .ok (.bipush 15, 2) := by decide +kernel
theorem dXR_planePixel_5 : decode cXR_planePixel 5 = .ok (.iand, 1) := by decide +kernel
theorem dXR_planePixel_6 : decode cXR_planePixel 6 = .ok (.bipush 32, 2) := by decide +kernel
theorem dXR_planePixel_8 : decode cXR_planePixel 8 = .ok (.imul, 1) := by decide +kernel
theorem dXR_planePixel_9 : decode cXR_planePixel 9 = .ok (.iload_n 3, 1) := by decide +kernel
theorem dXR_planePixel_10 : decode cXR_planePixel 10 = .ok (.iconst 4, 1) := by decide +kernel
theorem dXR_planePixel_11 : decode cXR_planePixel 11 = .ok (.idiv, 1) := by decide +kernel
theorem dXR_planePixel_12 : decode cXR_planePixel 12 = .ok (.bipush 8, 2) := by decide +kernel
theorem dXR_planePixel_14 : decode cXR_planePixel 14 = .ok (.imul, 1) := by decide +kernel
theorem dXR_planePixel_15 : decode cXR_planePixel 15 = .ok (.iadd, 1) := by decide +kernel
theorem dXR_planePixel_16 : decode cXR_planePixel 16 = .ok (.iload_n 2, 1) := by decide +kernel
theorem dXR_planePixel_17 : decode cXR_planePixel 17 = .ok (.iconst 4, 1) := by decide +kernel
theorem dXR_planePixel_18 : decode cXR_planePixel 18 = .ok (.idiv, 1) := by decide +kernel
theorem dXR_planePixel_19 : decode cXR_planePixel 19 = .ok (.iadd, 1) := by decide +kernel
theorem dXR_planePixel_20 : decode cXR_planePixel 20 = .ok (.invokevirtual 135, 3) := by decide +kernel
theorem dXR_planePixel_23 : decode cXR_planePixel 23 = .ok (.iload_n 2, 1) := by decide +kernel
theorem dXR_planePixel_24 : decode cXR_planePixel 24 = .ok (.iconst 4, 1) := by decide +kernel
theorem dXR_planePixel_25 : decode cXR_planePixel 25 = .ok (.irem, 1) := by decide +kernel
theorem dXR_planePixel_26 : decode cXR_planePixel 26 = .ok (.iload_n 3, 1) := by decide +kernel
theorem dXR_planePixel_27 : decode cXR_planePixel 27 = .ok (.iconst 4, 1) := by decide +kernel
theorem dXR_planePixel_28 : decode cXR_planePixel 28 = .ok (.irem, 1) := by decide +kernel
theorem dXR_planePixel_29 : decode cXR_planePixel 29 = .ok (.invokevirtual 283, 3) := by decide +kernel
theorem dXR_planePixel_32 : decode cXR_planePixel 32 = .ok (.ireturn, 1) := by decide +kernel
theorem dXR_plane_0 : decode cXR_plane 0 = .ok (.iload_n 1, 1) := by decide +kernel
theorem dXR_plane_1 : decode cXR_plane 1 = .ok (.ifCond .ne 12, 3) := by decide +kernel
theorem dXR_plane_4 : decode cXR_plane 4 = .ok (.aload_n 0, 1) := by decide +kernel
theorem dXR_plane_5 : decode cXR_plane 5 = .ok (.getfield 35, 3) := by decide +kernel
theorem dXR_plane_8 : decode cXR_plane 8 = .ok (.iconst 2, 1) := by decide +kernel
theorem dXR_plane_9 : decode cXR_plane 9 = .ok (.iaload, 1) := by decide +kernel
theorem dXR_plane_10 : decode cXR_plane 10 = .ok (.goto 9, 3) := by decide +kernel
theorem dXR_plane_13 : decode cXR_plane 13 = .ok (.aload_n 0, 1) := by decide +kernel
theorem dXR_plane_14 : decode cXR_plane 14 = .ok (.getfield 35, 3) := by decide +kernel
theorem dXR_plane_17 : decode cXR_plane 17 = .ok (.iconst 4, 1) := by decide +kernel
theorem dXR_plane_18 : decode cXR_plane 18 = .ok (.iaload, 1) := by decide +kernel
theorem dXR_plane_19 : decode cXR_plane 19 = .ok (.istore_n 3, 1) := by decide +kernel
theorem dXR_plane_20 : decode cXR_plane 20 = .ok (.iload_n 1, 1) := by decide +kernel
theorem dXR_plane_21 : decode cXR_plane 21 = .ok (.ifCond .ne 29, 3) := by decide +kernel
theorem dXR_plane_24 : decode cXR_plane 24 = .ok (.iload_n 2, 1) := by decide +kernel
theorem dXR_plane_25 : decode cXR_plane 25 = .ok (.iconst 4, 1) := by decide +kernel
theorem dXR_plane_26 : decode cXR_plane 26 = .ok (.idiv, 1) := by decide +kernel
theorem dXR_plane_27 : decode cXR_plane 27 = .ok (.aload_n 0, 1) := by decide +kernel
theorem dXR_plane_28 : decode cXR_plane 28 = .ok (.getfield 35, 3) := by decide +kernel
theorem dXR_plane_31 : decode cXR_plane 31 = .ok (.iconst 3, 1) := by decide +kernel
theorem dXR_plane_32 : decode cXR_plane 32 = .ok (.iaload, 1) := by decide +kernel
theorem dXR_plane_33 : decode cXR_plane 33 = .ok (.bipush 7, 2) := by decide +kernel
theorem dXR_plane_35 : decode cXR_plane 35 = .ok (.iand, 1) := by decide +kernel
theorem dXR_plane_36 : decode cXR_plane 36 = .ok (.if_icmp .ge 14, 3) := by decide +kernel
theorem dXR_plane_39 : decode cXR_plane 39 = .ok (.aload_n 0, 1) := by decide +kernel
theorem dXR_plane_40 : decode cXR_plane 40 = .ok (.iload_n 3, 1) := by decide +kernel
theorem dXR_plane_41 : decode cXR_plane 41 = .ok (.iload_n 2, 1) := by decide +kernel
theorem dXR_plane_42 : decode cXR_plane 42 = .ok (.aload_n 0, 1) := by decide +kernel
theorem dXR_plane_43 : decode cXR_plane 43 = .ok (.getfield 55, 3) := by decide +kernel
theorem dXR_plane_46 : decode cXR_plane 46 = .ok (.invokevirtual 287, 3) := by decide +kernel
theorem dXR_plane_49 : decode cXR_plane 49 = .ok (.ireturn, 1) := by decide +kernel
theorem dXR_plane_50 : decode cXR_plane 50 = .ok (.aload_n 0, 1) := by decide +kernel
theorem dXR_plane_51 : decode cXR_plane 51 = .ok (.aload_n 0, 1) := by decide +kernel
theorem dXR_plane_52 : decode cXR_plane 52 = .ok (.getfield 35, 3) := by decide +kernel
theorem dXR_plane_55 : decode cXR_plane 55 = .ok (.bipush 13, 2) := by decide +kernel
theorem dXR_plane_57 : decode cXR_plane 57 = .ok (.iaload, 1) := by decide +kernel
theorem dXR_plane_58 : decode cXR_plane 58 = .ok (.bipush 31, 2) := by decide +kernel
theorem dXR_plane_60 : decode cXR_plane 60 = .ok (.iand, 1) := by decide +kernel
theorem dXR_plane_61 : decode cXR_plane 61 = .ok (.bipush 16, 2) := by decide +kernel
theorem dXR_plane_63 : decode cXR_plane 63 = .ok (.imul, 1) := by decide +kernel
theorem dXR_plane_64 : decode cXR_plane 64 = .ok (.iload_n 1, 1) := by decide +kernel
theorem dXR_plane_65 : decode cXR_plane 65 = .ok (.iadd, 1) := by decide +kernel
theorem dXR_plane_66 : decode cXR_plane 66 = .ok (.invokevirtual 135, 3) := by decide +kernel
theorem dXR_plane_69 : decode cXR_plane 69 = .ok (.istore 4, 2) := by decide +kernel
theorem dXR_plane_71 : decode cXR_plane 71 = .ok (.aload_n 0, 1) := by decide +kernel
theorem dXR_plane_72 : decode cXR_plane 72 = .ok (.iload_n 3, 1) := by decide +kernel
theorem dXR_plane_73 : decode cXR_plane 73 = .ok (.iload_n 2, 1) := by decide +kernel
theorem dXR_plane_74 : decode cXR_plane 74 = .ok (.iload 4, 2) := by decide +kernel
theorem dXR_plane_76 : decode cXR_plane 76 = .ok (.isub, 1) := by decide +kernel
theorem dXR_plane_77 : decode cXR_plane 77 = .ok (.bipush 31, 2) := by decide +kernel
theorem dXR_plane_79 : decode cXR_plane 79 = .ok (.iand, 1) := by decide +kernel
theorem dXR_plane_80 : decode cXR_plane 80 = .ok (.aload_n 0, 1) := by decide +kernel
theorem dXR_plane_81 : decode cXR_plane 81 = .ok (.getfield 55, 3) := by decide +kernel
theorem dXR_plane_84 : decode cXR_plane 84 = .ok (.aload_n 0, 1) := by decide +kernel
theorem dXR_plane_85 : decode cXR_plane 85 = .ok (.getfield 32, 3) := by decide +kernel
theorem dXR_plane_88 : decode cXR_plane 88 = .ok (.iload_n 1, 1) := by decide +kernel
theorem dXR_plane_89 : decode cXR_plane 89 = .ok (.iaload, 1) := by decide +kernel
theorem dXR_plane_90 : decode cXR_plane 90 = .ok (.iadd, 1) := by decide +kernel
theorem dXR_plane_91 : decode cXR_plane 91 = .ok (.bipush 15, 2) := by decide +kernel
theorem dXR_plane_93 : decode cXR_plane 93 = .ok (.iand, 1) := by decide +kernel
theorem dXR_plane_94 : decode cXR_plane 94 = .ok (.invokevirtual 287, 3) := by decide +kernel
theorem dXR_plane_97 : decode cXR_plane 97 = .ok (.ireturn, 1) := by decide +kernel
theorem dXR_spriteWord_0 : decode cXR_spriteWord 0 = .ok (.aload_n 0, 1) := by decide +kernel
theorem dXR_spriteWord_1 : decode cXR_spriteWord 1 = .ok (.aload_n 0, 1) := by decide +kernel
theorem dXR_spriteWord_2 : decode cXR_spriteWord 2 = .ok (.getfield 35, 3) := by decide +kernel
theorem dXR_spriteWord_5 : decode cXR_spriteWord 5 = .ok (.iconst 5, 1) := by decide +kernel
theorem dXR_spriteWord_6 : decode cXR_spriteWord 6 = .ok (.iaload, 1) := by decide +kernel
theorem dXR_spriteWord_7 : decode cXR_spriteWord 7 = .ok (.bipush 15, 2) := by decide +kernel
theorem dXR_spriteWord_9 : decode cXR_spriteWord 9 = .ok (.iand, 1) := by decide +kernel
theorem dXR_spriteWord_10 : decode cXR_spriteWord 10 = .ok (.bipush 32, 2) := by decide +kernel
theorem dXR_spriteWord_12 : decode cXR_spriteWord 12 = .ok (.imul, 1) := by decide +kernel
theorem dXR_spriteWord_13 : decode cXR_spriteWord 13 = .ok (.iconst 4, 1) := by decide +kernel
theorem dXR_spriteWord_14 : decode cXR_spriteWord 14 = .ok (.iload_n 1, 1) := by decide +kernel
theorem dXR_spriteWord_15 : decode cXR_spriteWord 15 = .ok (.imul, 1) := by decide +kernel
theorem dXR_spriteWord_16 : decode cXR_spriteWord 16 = .ok (.iadd, 1) := by decide +kernel
theorem dXR_spriteWord_17 : decode cXR_spriteWord 17 = .ok (.iload_n 2, 1) := by decide +kernel
theorem dXR_spriteWord_18 : decode cXR_spriteWord 18 = .ok (.iadd, 1) := by decide +kernel
theorem dXR_spriteWord_19 : decode cXR_spriteWord 19 = .ok (.sipush 512, 3) := by decide +kernel
theorem dXR_spriteWord_22 : decode cXR_spriteWord 22 = .ok (.irem, 1) := by decide +kernel
theorem dXR_spriteWord_23 : decode cXR_spriteWord 23 = .ok (.invokevirtual 135, 3) := by decide +kernel
theorem dXR_spriteWord_26 : decode cXR_spriteWord 26 = .ok (.ireturn, 1) := by decide +kernel
theorem dXR_takeSprites_0 : decode cXR_takeSprites 0 = .ok (.aload_n 0, 1) := by decide +kernel
theorem dXR_takeSprites_1 : decode cXR_takeSprites 1 = .ok (.iconst 0, 1) := by decide +kernel
theorem dXR_takeSprites_2 : decode cXR_takeSprites 2 = .ok (.putfield 290, 3) := by decide +kernel
theorem dXR_takeSprites_5 : decode cXR_takeSprites 5 = .ok (.iconst 0, 1) := by decide +kernel
theorem dXR_takeSprites_6 : decode cXR_takeSprites 6 = .ok (.istore_n 1, 1) := by decide +kernel
theorem dXR_takeSprites_7 : decode cXR_takeSprites 7 = .ok (.iconst 0, 1) := by decide +kernel
theorem dXR_takeSprites_8 : decode cXR_takeSprites 8 = .ok (.istore_n 2, 1) := by decide +kernel
theorem dXR_takeSprites_9 : decode cXR_takeSprites 9 = .ok (.iconst 1, 1) := by decide +kernel
theorem dXR_takeSprites_10 : decode cXR_takeSprites 10 = .ok (.istore_n 3, 1) := by decide +kernel
theorem dXR_takeSprites_11 : decode cXR_takeSprites 11 = .ok (.iconst 0, 1) := by decide +kernel
theorem dXR_takeSprites_12 : decode cXR_takeSprites 12 = .ok (.istore 4, 2) := by decide +kernel
theorem dXR_takeSprites_14 : decode cXR_takeSprites 14 = .ok (.iload 4, 2) := by decide +kernel
theorem dXR_takeSprites_16 : decode cXR_takeSprites 16 = .ok (.bipush 8, 2) := by decide +kernel
theorem dXR_takeSprites_18 : decode cXR_takeSprites 18 = .ok (.if_icmp .ge 126, 3) := by decide +kernel
theorem dXR_takeSprites_21 : decode cXR_takeSprites 21 = .ok (.iload_n 3, 1) := by decide +kernel
theorem dXR_takeSprites_22 : decode cXR_takeSprites 22 = .ok (.ifCond .eq 122, 3) := by decide +kernel
theorem dXR_takeSprites_25 : decode cXR_takeSprites 25 = .ok (.aload_n 0, 1) := by decide +kernel
theorem dXR_takeSprites_26 : decode cXR_takeSprites 26 = .ok (.getfield 55, 3) := by decide +kernel
theorem dXR_takeSprites_29 : decode cXR_takeSprites 29 = .ok (.bipush 16, 2) := by decide +kernel
theorem dXR_takeSprites_31 : decode cXR_takeSprites 31 = .ok (.iadd, 1) := by decide +kernel
theorem dXR_takeSprites_32 : decode cXR_takeSprites 32 = .ok (.aload_n 0, 1) := by decide +kernel
theorem dXR_takeSprites_33 : decode cXR_takeSprites 33 = .ok (.iload_n 2, 1) := by decide +kernel
theorem dXR_takeSprites_34 : decode cXR_takeSprites 34 = .ok (.iconst 0, 1) := by decide +kernel
theorem dXR_takeSprites_35 : decode cXR_takeSprites 35 = .ok (.invokevirtual 293, 3) := by decide +kernel
theorem dXR_takeSprites_38 : decode cXR_takeSprites 38 = .ok (.bipush 63, 2) := by decide +kernel
theorem dXR_takeSprites_40 : decode cXR_takeSprites 40 = .ok (.iand, 1) := by decide +kernel
theorem dXR_takeSprites_41 : decode cXR_takeSprites 41 = .ok (.isub, 1) := by decide +kernel
theorem dXR_takeSprites_42 : decode cXR_takeSprites 42 = .ok (.istore 5, 2) := by decide +kernel
theorem dXR_takeSprites_44 : decode cXR_takeSprites 44 = .ok (.iload 5, 2) := by decide +kernel
theorem dXR_takeSprites_46 : decode cXR_takeSprites 46 = .ok (.ifCond .lt 68, 3) := by decide +kernel
theorem dXR_takeSprites_49 : decode cXR_takeSprites 49 = .ok (.iload 5, 2) := by decide +kernel
theorem dXR_takeSprites_51 : decode cXR_takeSprites 51 = .ok (.iconst 4, 1) := by decide +kernel
theorem dXR_takeSprites_52 : decode cXR_takeSprites 52 = .ok (.if_icmp .ge 62, 3) := by decide +kernel
theorem dXR_takeSprites_55 : decode cXR_takeSprites 55 = .ok (.iload_n 1, 1) := by decide +kernel
theorem dXR_takeSprites_56 : decode cXR_takeSprites 56 = .ok (.iconst 3, 1) := by decide +kernel
theorem dXR_takeSprites_57 : decode cXR_takeSprites 57 = .ok (.if_icmp .ne 13, 3) := by decide +kernel
theorem dXR_takeSprites_60 : decode cXR_takeSprites 60 = .ok (.aload_n 0, 1) := by decide +kernel
theorem dXR_takeSprites_61 : decode cXR_takeSprites 61 = .ok (.iconst 1, 1) := by decide +kernel
theorem dXR_takeSprites_62 : decode cXR_takeSprites 62 = .ok (.putfield 64, 3) := by decide +kernel
theorem dXR_takeSprites_65 : decode cXR_takeSprites 65 = .ok (.iconst 0, 1) := by decide +kernel
theorem dXR_takeSprites_66 : decode cXR_takeSprites 66 = .ok (.istore_n 3, 1) := by decide +kernel
theorem dXR_takeSprites_67 : decode cXR_takeSprites 67 = .ok (.goto 47, 3) := by decide +kernel
theorem dXR_takeSprites_70 : decode cXR_takeSprites 70 = .ok (.aload_n 0, 1) := by decide +kernel
theorem dXR_takeSprites_71 : decode cXR_takeSprites 71 = .ok (.iload_n 2, 1) := by decide +kernel
theorem dXR_takeSprites_72 : decode cXR_takeSprites 72 = .ok (.iconst 3, 1) := by decide +kernel
theorem dXR_takeSprites_73 : decode cXR_takeSprites 73 = .ok (.invokevirtual 293, 3) := by decide +kernel
theorem dXR_takeSprites_76 : decode cXR_takeSprites 76 = .ok (.bipush 63, 2) := by decide +kernel
theorem dXR_takeSprites_78 : decode cXR_takeSprites 78 = .ok (.iand, 1) := by decide +kernel
theorem dXR_takeSprites_79 : decode cXR_takeSprites 79 = .ok (.ifCond .ne 12, 3) := by decide +kernel
theorem dXR_takeSprites_82 : decode cXR_takeSprites 82 = .ok (.iload_n 1, 1) := by decide +kernel
theorem dXR_takeSprites_83 : decode cXR_takeSprites 83 = .ok (.ifCond .le 8, 3) := by decide +kernel
theorem dXR_takeSprites_86 : decode cXR_takeSprites 86 = .ok (.iconst 0, 1) := by decide +kernel
theorem dXR_takeSprites_87 : decode cXR_takeSprites 87 = .ok (.istore_n 3, 1) := by decide +kernel
theorem dXR_takeSprites_88 : decode cXR_takeSprites 88 = .ok (.goto 26, 3) := by decide +kernel
theorem dXR_takeSprites_91 : decode cXR_takeSprites 91 = .ok (.aload_n 0, 1) := by decide +kernel
theorem dXR_takeSprites_92 : decode cXR_takeSprites 92 = .ok (.getfield 41, 3) := by decide +kernel
theorem dXR_takeSprites_95 : decode cXR_takeSprites 95 = .ok (.aload_n 0, 1) := by decide +kernel
theorem dXR_takeSprites_96 : decode cXR_takeSprites 96 = .ok (.getfield 290, 3) := by decide +kernel
theorem dXR_takeSprites_99 : decode cXR_takeSprites 99 = .ok (.iload_n 2, 1) := by decide +kernel
theorem dXR_takeSprites_100 : decode cXR_takeSprites 100 = .ok (.iastore, 1) := by decide +kernel
theorem dXR_takeSprites_101 : decode cXR_takeSprites 101 = .ok (.aload_n 0, 1) := by decide +kernel
theorem dXR_takeSprites_102 : decode cXR_takeSprites 102 = .ok (.dup, 1) := by decide +kernel
theorem dXR_takeSprites_103 : decode cXR_takeSprites 103 = .ok (.getfield 290, 3) := by decide +kernel
theorem dXR_takeSprites_106 : decode cXR_takeSprites 106 = .ok (.iconst 1, 1) := by decide +kernel
theorem dXR_takeSprites_107 : decode cXR_takeSprites 107 = .ok (.iadd, 1) := by decide +kernel
theorem dXR_takeSprites_108 : decode cXR_takeSprites 108 = .ok (.putfield 290, 3) := by decide +kernel
theorem dXR_takeSprites_111 : decode cXR_takeSprites 111 = .ok (.iinc 1 1, 3) := by decide +kernel
theorem dXR_takeSprites_114 : decode cXR_takeSprites 114 = .ok (.aload_n 0, 1) := by decide +kernel
theorem dXR_takeSprites_115 : decode cXR_takeSprites 115 = .ok (.iload_n 2, 1) := by decide +kernel
theorem dXR_takeSprites_116 : decode cXR_takeSprites 116 = .ok (.iconst 1, 1) := by decide +kernel
theorem dXR_takeSprites_117 : decode cXR_takeSprites 117 = .ok (.invokevirtual 293, 3) := by decide +kernel
theorem dXR_takeSprites_120 : decode cXR_takeSprites 120 = .ok (.bipush 7, 2) := by decide +kernel
theorem dXR_takeSprites_122 : decode cXR_takeSprites 122 = .ok (.iand, 1) := by decide +kernel
theorem dXR_takeSprites_123 : decode cXR_takeSprites 123 = .ok (.istore_n 2, 1) := by decide +kernel
theorem dXR_takeSprites_124 : decode cXR_takeSprites 124 = .ok (.iload_n 3, 1) := by decide +kernel
theorem dXR_takeSprites_125 : decode cXR_takeSprites 125 = .ok (.ifCond .eq 11, 3) := by decide +kernel
theorem dXR_takeSprites_128 : decode cXR_takeSprites 128 = .ok (.iload_n 2, 1) := by decide +kernel
theorem dXR_takeSprites_129 : decode cXR_takeSprites 129 = .ok (.ifCond .eq 7, 3) := by decide +kernel
theorem dXR_takeSprites_132 : decode cXR_takeSprites 132 = .ok (.iconst 1, 1) := by decide +kernel
theorem dXR_takeSprites_133 : decode cXR_takeSprites 133 = .ok (.goto 4, 3) := by decide +kernel
theorem dXR_takeSprites_136 : decode cXR_takeSprites 136 = .ok (.iconst 0, 1) := by decide +kernel
theorem dXR_takeSprites_137 : decode cXR_takeSprites 137 = .ok (.istore_n 3, 1) := by decide +kernel
theorem dXR_takeSprites_138 : decode cXR_takeSprites 138 = .ok (.iinc 4 1, 3) := by decide +kernel
theorem dXR_takeSprites_141 : decode cXR_takeSprites 141 = .ok (.goto (-127), 3) := by decide +kernel
theorem dXR_takeSprites_144 : decode cXR_takeSprites 144 = .ok (.return_, 1) := by decide +kernel
theorem dXR_spritePixel_0 : decode cXR_spritePixel 0 = .ok (.iload_n 2, 1) := by decide +kernel
theorem dXR_spritePixel_1 : decode cXR_spritePixel 1 = .ok (.bipush 16, 2) := by decide +kernel
theorem dXR_spritePixel_3 : decode cXR_spritePixel 3 = .ok (.iadd, 1) := by decide +kernel
theorem dXR_spritePixel_4 : decode cXR_spritePixel 4 = .ok (.aload_n 0, 1) := by decide +kernel
theorem dXR_spritePixel_5 : decode cXR_spritePixel 5 = .ok (.iload_n 1, 1) := by decide +kernel
theorem dXR_spritePixel_6 : decode cXR_spritePixel 6 = .ok (.iconst 3, 1) := by decide +kernel
theorem dXR_spritePixel_7 : decode cXR_spritePixel 7 = .ok (.invokevirtual 293, 3) := by decide +kernel
theorem dXR_spritePixel_10 : decode cXR_spritePixel 10 = .ok (.bipush 63, 2) := by decide +kernel
theorem dXR_spritePixel_12 : decode cXR_spritePixel 12 = .ok (.iand, 1) := by decide +kernel
theorem dXR_spritePixel_13 : decode cXR_spritePixel 13 = .ok (.isub, 1) := by decide +kernel
theorem dXR_spritePixel_14 : decode cXR_spritePixel 14 = .ok (.istore_n 3, 1) := by decide +kernel
theorem dXR_spritePixel_15 : decode cXR_spritePixel 15 = .ok (.aload_n 0, 1) := by decide +kernel
theorem dXR_spritePixel_16 : decode cXR_spritePixel 16 = .ok (.getfield 55, 3) := by decide +kernel
theorem dXR_spritePixel_19 : decode cXR_spritePixel 19 = .ok (.bipush 16, 2) := by decide +kernel
theorem dXR_spritePixel_21 : decode cXR_spritePixel 21 = .ok (.iadd, 1) := by decide +kernel
theorem dXR_spritePixel_22 : decode cXR_spritePixel 22 = .ok (.aload_n 0, 1) := by decide +kernel
theorem dXR_spritePixel_23 : decode cXR_spritePixel 23 = .ok (.iload_n 1, 1) := by decide +kernel
theorem dXR_spritePixel_24 : decode cXR_spritePixel 24 = .ok (.iconst 0, 1) := by decide +kernel
theorem dXR_spritePixel_25 : decode cXR_spritePixel 25 = .ok (.invokevirtual 293, 3) := by decide +kernel
theorem dXR_spritePixel_28 : decode cXR_spritePixel 28 = .ok (.bipush 63, 2) := by decide +kernel
theorem dXR_spritePixel_30 : decode cXR_spritePixel 30 = .ok (.iand, 1) := by decide +kernel
theorem dXR_spritePixel_31 : decode cXR_spritePixel 31 = .ok (.isub, 1) := by decide +kernel
theorem dXR_spritePixel_32 : decode cXR_spritePixel 32 = .ok (.istore 4, 2) := by decide +kernel
theorem dXR_spritePixel_34 : decode cXR_spritePixel 34 = .ok (.iload_n 3, 1) := by decide +kernel
theorem dXR_spritePixel_35 : decode cXR_spritePixel 35 = .ok (.ifCond .lt 8, 3) := by decide +kernel
theorem dXR_spritePixel_38 : decode cXR_spritePixel 38 = .ok (.iload_n 3, 1) := by decide +kernel
theorem dXR_spritePixel_39 : decode cXR_spritePixel 39 = .ok (.iconst 3, 1) := by decide +kernel
theorem dXR_spritePixel_40 : decode cXR_spritePixel 40 = .ok (.if_icmp .le 7, 3) := by decide +kernel
theorem dXR_spritePixel_43 : decode cXR_spritePixel 43 = .ok (.iconst 0, 1) := by decide +kernel
theorem dXR_spritePixel_44 : decode cXR_spritePixel 44 = .ok (.goto 16, 3) := by decide +kernel
theorem dXR_spritePixel_47 : decode cXR_spritePixel 47 = .ok (.aload_n 0, 1) := by decide +kernel
theorem dXR_spritePixel_48 : decode cXR_spritePixel 48 = .ok (.aload_n 0, 1) := by decide +kernel
theorem dXR_spritePixel_49 : decode cXR_spritePixel 49 = .ok (.iload_n 1, 1) := by decide +kernel
theorem dXR_spritePixel_50 : decode cXR_spritePixel 50 = .ok (.iconst 2, 1) := by decide +kernel
theorem dXR_spritePixel_51 : decode cXR_spritePixel 51 = .ok (.invokevirtual 293, 3) := by decide +kernel
theorem dXR_spritePixel_54 : decode cXR_spritePixel 54 = .ok (.iload_n 3, 1) := by decide +kernel
theorem dXR_spritePixel_55 : decode cXR_spritePixel 55 = .ok (.iload 4, 2) := by decide +kernel
theorem dXR_spritePixel_57 : decode cXR_spritePixel 57 = .ok (.invokevirtual 283, 3) := by decide +kernel
theorem dXR_spritePixel_60 : decode cXR_spritePixel 60 = .ok (.ireturn, 1) := by decide +kernel
theorem dXR_spriteAt_0 : decode cXR_spriteAt 0 = .ok (.iconst 0, 1) := by decide +kernel
theorem dXR_spriteAt_1 : decode cXR_spriteAt 1 = .ok (.istore_n 2, 1) := by decide +kernel
theorem dXR_spriteAt_2 : decode cXR_spriteAt 2 = .ok (.iconst 0, 1) := by decide +kernel
theorem dXR_spriteAt_3 : decode cXR_spriteAt 3 = .ok (.istore_n 3, 1) := by decide +kernel
theorem dXR_spriteAt_4 : decode cXR_spriteAt 4 = .ok (.iload_n 3, 1) := by decide +kernel
theorem dXR_spriteAt_5 : decode cXR_spriteAt 5 = .ok (.aload_n 0, 1) := by decide +kernel
theorem dXR_spriteAt_6 : decode cXR_spriteAt 6 = .ok (.getfield 290, 3) := by decide +kernel
theorem dXR_spriteAt_9 : decode cXR_spriteAt 9 = .ok (.if_icmp .ge 58, 3) := by decide +kernel
theorem dXR_spriteAt_12 : decode cXR_spriteAt 12 = .ok (.aload_n 0, 1) := by decide +kernel
theorem dXR_spriteAt_13 : decode cXR_spriteAt 13 = .ok (.aload_n 0, 1) := by decide +kernel
theorem dXR_spriteAt_14 : decode cXR_spriteAt 14 = .ok (.getfield 41, 3) := by decide +kernel
theorem dXR_spriteAt_17 : decode cXR_spriteAt 17 = .ok (.iload_n 3, 1) := by decide +kernel
theorem dXR_spriteAt_18 : decode cXR_spriteAt 18 = .ok (.iaload, 1) := by decide +kernel
theorem dXR_spriteAt_19 : decode cXR_spriteAt 19 = .ok (.iload_n 1, 1) := by decide +kernel
theorem dXR_spriteAt_20 : decode cXR_spriteAt 20 = .ok (.invokevirtual 297, 3) := by decide +kernel
theorem dXR_spriteAt_23 : decode cXR_spriteAt 23 = .ok (.istore 4, 2) := by decide +kernel
theorem dXR_spriteAt_25 : decode cXR_spriteAt 25 = .ok (.aload_n 0, 1) := by decide +kernel
theorem dXR_spriteAt_26 : decode cXR_spriteAt 26 = .ok (.aload_n 0, 1) := by decide +kernel
theorem dXR_spriteAt_27 : decode cXR_spriteAt 27 = .ok (.getfield 61, 3) := by decide +kernel
theorem dXR_spriteAt_30 : decode cXR_spriteAt 30 = .ok (.ifCond .ne 12, 3) := by decide +kernel
theorem dXR_spriteAt_33 : decode cXR_spriteAt 33 = .ok (.iload 4, 2) := by decide +kernel
theorem dXR_spriteAt_35 : decode cXR_spriteAt 35 = .ok (.ifCond .le 11, 3) := by decide +kernel
theorem dXR_spriteAt_38 : decode cXR_spriteAt 38 = .ok (.iload_n 2, 1) := by decide +kernel
theorem dXR_spriteAt_39 : decode cXR_spriteAt 39 = .ok (.ifCond .le 7, 3) := by decide +kernel
theorem dXR_spriteAt_42 : decode cXR_spriteAt 42 = .ok (.iconst 1, 1) := by decide +kernel
theorem dXR_spriteAt_43 : decode cXR_spriteAt 43 = .ok (.goto 4, 3) := by decide +kernel
theorem dXR_spriteAt_46 : decode cXR_spriteAt 46 = .ok (.iconst 0, 1) := by decide +kernel
theorem dXR_spriteAt_47 : decode cXR_spriteAt 47 = .ok (.putfield 61, 3) := by decide +kernel
theorem dXR_spriteAt_50 : decode cXR_spriteAt 50 = .ok (.iload_n 2, 1) := by decide +kernel
theorem dXR_spriteAt_51 : decode cXR_spriteAt 51 = .ok (.ifCond .ne 8, 3) := by decide +kernel
theorem dXR_spriteAt_54 : decode cXR_spriteAt 54 = .ok (.iload 4, 2) := by decide +kernel
theorem dXR_spriteAt_56 : decode cXR_spriteAt 56 = .ok (.goto 4, 3) := by decide +kernel
theorem dXR_spriteAt_59 : decode cXR_spriteAt 59 = .ok (.iload_n 2, 1) := by decide +kernel
theorem dXR_spriteAt_60 : decode cXR_spriteAt 60 = .ok (.istore_n 2, 1) := by decide +kernel
theorem dXR_spriteAt_61 : decode cXR_spriteAt 61 = .ok (.iinc 3 1, 3) := by decide +kernel
theorem dXR_spriteAt_64 : decode cXR_spriteAt 64 = .ok (.goto (-60), 3) := by decide +kernel
theorem dXR_spriteAt_67 : decode cXR_spriteAt 67 = .ok (.iload_n 2, 1) := by decide +kernel
theorem dXR_spriteAt_68 : decode cXR_spriteAt 68 = .ok (.ireturn, 1) := by decide +kernel
theorem dXR_draw_0 : decode cXR_draw 0 = .ok (.aload_n 0, 1) := by decide +kernel
theorem dXR_draw_1 : decode cXR_draw 1 = .ok (.getfield 35, 3) := by decide +kernel
theorem dXR_draw_4 : decode cXR_draw 4 = .ok (.iconst 1, 1) := by decide +kernel
theorem dXR_draw_5 : decode cXR_draw 5 = .ok (.iaload, 1) := by decide +kernel
theorem dXR_draw_6 : decode cXR_draw 6 = .ok (.bipush 64, 2) := by decide +kernel
theorem dXR_draw_8 : decode cXR_draw 8 = .ok (.iand, 1) := by decide +kernel
theorem dXR_draw_9 : decode cXR_draw 9 = .ok (.ifCond .eq 7, 3) := by decide +kernel
theorem dXR_draw_12 : decode cXR_draw 12 = .ok (.iconst 1, 1) := by decide +kernel
theorem dXR_draw_13 : decode cXR_draw 13 = .ok (.goto 4, 3) := by decide +kernel
theorem dXR_draw_16 : decode cXR_draw 16 = .ok (.iconst 0, 1) := by decide +kernel
theorem dXR_draw_17 : decode cXR_draw 17 = .ok (.istore_n 1, 1) := by decide +kernel
theorem dXR_draw_18 : decode cXR_draw 18 = .ok (.iload_n 1, 1) := by decide +kernel
theorem dXR_draw_19 : decode cXR_draw 19 = .ok (.ifCond .eq 7, 3) := by decide +kernel
theorem dXR_draw_22 : decode cXR_draw 22 = .ok (.aload_n 0, 1) := by decide +kernel
theorem dXR_draw_23 : decode cXR_draw 23 = .ok (.invokevirtual 300, 3) := by decide +kernel
theorem dXR_draw_26 : decode cXR_draw 26 = .ok (.iconst 0, 1) := by decide +kernel
theorem dXR_draw_27 : decode cXR_draw 27 = .ok (.istore_n 2, 1) := by decide +kernel
theorem dXR_draw_28 : decode cXR_draw 28 = .ok (.iload_n 2, 1) := by decide +kernel
theorem dXR_draw_29 : decode cXR_draw 29 = .ok (.bipush 16, 2) := by decide +kernel
theorem dXR_draw_31 : decode cXR_draw 31 = .ok (.if_icmp .ge 137, 3) := by decide +kernel
theorem dXR_draw_34 : decode cXR_draw 34 = .ok (.aload_n 0, 1) := by decide +kernel
theorem dXR_draw_35 : decode cXR_draw 35 = .ok (.getfield 35, 3) := by decide +kernel
theorem dXR_draw_38 : decode cXR_draw 38 = .ok (.bipush 7, 2) := by decide +kernel
theorem dXR_draw_40 : decode cXR_draw 40 = .ok (.iaload, 1) := by decide +kernel
theorem dXR_draw_41 : decode cXR_draw 41 = .ok (.bipush 15, 2) := by decide +kernel
theorem dXR_draw_43 : decode cXR_draw 43 = .ok (.iand, 1) := by decide +kernel
theorem dXR_draw_44 : decode cXR_draw 44 = .ok (.istore_n 3, 1) := by decide +kernel
theorem dXR_draw_45 : decode cXR_draw 45 = .ok (.iload_n 1, 1) := by decide +kernel
theorem dXR_draw_46 : decode cXR_draw 46 = .ok (.ifCond .eq 101, 3) := by decide +kernel
theorem dXR_draw_49 : decode cXR_draw 49 = .ok (.aload_n 0, 1) := by decide +kernel
theorem dXR_draw_50 : decode cXR_draw 50 = .ok (.iload_n 2, 1) := by decide +kernel
theorem dXR_draw_51 : decode cXR_draw 51 = .ok (.invokevirtual 303, 3) := by decide +kernel
theorem dXR_draw_54 : decode cXR_draw 54 = .ok (.istore 4, 2) := by decide +kernel
theorem dXR_draw_56 : decode cXR_draw 56 = .ok (.aload_n 0, 1) := by decide +kernel
theorem dXR_draw_57 : decode cXR_draw 57 = .ok (.iconst 0, 1) := by decide +kernel
theorem dXR_draw_58 : decode cXR_draw 58 = .ok (.iload_n 2, 1) := by decide +kernel
theorem dXR_draw_59 : decode cXR_draw 59 = .ok (.invokevirtual 306, 3) := by decide +kernel
theorem dXR_draw_62 : decode cXR_draw 62 = .ok (.istore 5, 2) := by decide +kernel
theorem dXR_draw_64 : decode cXR_draw 64 = .ok (.aload_n 0, 1) := by decide +kernel
theorem dXR_draw_65 : decode cXR_draw 65 = .ok (.iconst 1, 1) := by decide +kernel
theorem dXR_draw_66 : decode cXR_draw 66 = .ok (.iload_n 2, 1) := by decide +kernel
theorem dXR_draw_67 : decode cXR_draw 67 = .ok (.invokevirtual 306, 3) := by decide +kernel
theorem dXR_draw_70 : decode cXR_draw 70 = .ok (.istore 6, 2) := by decide +kernel
theorem dXR_draw_72 : decode cXR_draw 72 = .ok (.iload 4, 2) := by decide +kernel
theorem dXR_draw_74 : decode cXR_draw 74 = .ok (.bipush 15, 2) := by decide +kernel
theorem dXR_draw_76 : decode cXR_draw 76 = .ok (.if_icmp .le 8, 3) := by decide +kernel
theorem dXR_draw_79 : decode cXR_draw 79 = .ok (.iload 4, 2) := by decide +kernel
theorem dXR_draw_81 : decode cXR_draw 81 = .ok (.goto 49, 3) := by decide +kernel
theorem dXR_draw_84 : decode cXR_draw 84 = .ok (.iload 5, 2) := by decide +kernel
theorem dXR_draw_86 : decode cXR_draw 86 = .ok (.bipush 15, 2) := by decide +kernel
theorem dXR_draw_88 : decode cXR_draw 88 = .ok (.if_icmp .le 8, 3) := by decide +kernel
theorem dXR_draw_91 : decode cXR_draw 91 = .ok (.iload 5, 2) := by decide +kernel
theorem dXR_draw_93 : decode cXR_draw 93 = .ok (.goto 37, 3) := by decide +kernel
theorem dXR_draw_96 : decode cXR_draw 96 = .ok (.iload 6, 2) := by decide +kernel
theorem dXR_draw_98 : decode cXR_draw 98 = .ok (.bipush 15, 2) := by decide +kernel
theorem dXR_draw_100 : decode cXR_draw 100 = .ok (.if_icmp .le 8, 3) := by decide +kernel
theorem dXR_draw_103 : decode cXR_draw 103 = .ok (.iload 6, 2) := by decide +kernel
theorem dXR_draw_105 : decode cXR_draw 105 = .ok (.goto 25, 3) := by decide +kernel
theorem dXR_draw_108 : decode cXR_draw 108 = .ok (.iload 4, 2) := by decide +kernel
theorem dXR_draw_110 : decode cXR_draw 110 = .ok (.ifCond .le 8, 3) := by decide +kernel
theorem dXR_draw_113 : decode cXR_draw 113 = .ok (.iload 4, 2) := by decide +kernel
theorem dXR_draw_115 : decode cXR_draw 115 = .ok (.goto 15, 3) := by decide +kernel
theorem dXR_draw_118 : decode cXR_draw 118 = .ok (.iload 5, 2) := by decide +kernel
theorem dXR_draw_120 : decode cXR_draw 120 = .ok (.ifCond .le 8, 3) := by decide +kernel
theorem dXR_draw_123 : decode cXR_draw 123 = .ok (.iload 5, 2) := by decide +kernel
theorem dXR_draw_125 : decode cXR_draw 125 = .ok (.goto 5, 3) := by decide +kernel
theorem dXR_draw_128 : decode cXR_draw 128 = .ok (.iload 6, 2) := by decide +kernel
theorem dXR_draw_130 : decode cXR_draw 130 = .ok (.istore 7, 2) := by decide +kernel
theorem dXR_draw_132 : decode cXR_draw 132 = .ok (.iload 7, 2) := by decide +kernel
theorem dXR_draw_134 : decode cXR_draw 134 = .ok (.ifCond .le 11, 3) := by decide +kernel
theorem dXR_draw_137 : decode cXR_draw 137 = .ok (.iload 7, 2) := by decide +kernel
theorem dXR_draw_139 : decode cXR_draw 139 = .ok (.bipush 15, 2) := by decide +kernel
theorem dXR_draw_141 : decode cXR_draw 141 = .ok (.iand, 1) := by decide +kernel
theorem dXR_draw_142 : decode cXR_draw 142 = .ok (.goto 4, 3) := by decide +kernel
theorem dXR_draw_145 : decode cXR_draw 145 = .ok (.iload_n 3, 1) := by decide +kernel
theorem dXR_draw_146 : decode cXR_draw 146 = .ok (.istore_n 3, 1) := by decide +kernel
theorem dXR_draw_147 : decode cXR_draw 147 = .ok (.aload_n 0, 1) := by decide +kernel
theorem dXR_draw_148 : decode cXR_draw 148 = .ok (.getfield 38, 3) := by decide +kernel
theorem dXR_draw_151 : decode cXR_draw 151 = .ok (.bipush 16, 2) := by decide +kernel
theorem dXR_draw_153 : decode cXR_draw 153 = .ok (.aload_n 0, 1) := by decide +kernel
theorem dXR_draw_154 : decode cXR_draw 154 = .ok (.getfield 55, 3) := by decide +kernel
theorem dXR_draw_157 : decode cXR_draw 157 = .ok (.imul, 1) := by decide +kernel
theorem dXR_draw_158 : decode cXR_draw 158 = .ok (.iload_n 2, 1) := by decide +kernel
theorem dXR_draw_159 : decode cXR_draw 159 = .ok (.iadd, 1) := by decide +kernel
theorem dXR_draw_160 : decode cXR_draw 160 = .ok (.iload_n 3, 1) := by decide +kernel
theorem dXR_draw_161 : decode cXR_draw 161 = .ok (.iastore, 1) := by decide +kernel
theorem dXR_draw_162 : decode cXR_draw 162 = .ok (.iinc 2 1, 3) := by decide +kernel
theorem dXR_draw_165 : decode cXR_draw 165 = .ok (.goto (-137), 3) := by decide +kernel
theorem dXR_draw_168 : decode cXR_draw 168 = .ok (.return_, 1) := by decide +kernel
theorem dXR_rom_0 : decode cXR_rom 0 = .ok (.iload_n 1, 1) := by decide +kernel
theorem dXR_rom_1 : decode cXR_rom 1 = .ok (.ifCond .lt 10, 3) := by decide +kernel
theorem dXR_rom_4 : decode cXR_rom 4 = .ok (.iload_n 1, 1) := by decide +kernel
theorem dXR_rom_5 : decode cXR_rom 5 = .ok (.sipush 255, 3) := by decide +kernel
theorem dXR_rom_8 : decode cXR_rom 8 = .ok (.if_icmp .le 5, 3) := by decide +kernel
theorem dXR_rom_11 : decode cXR_rom 11 = .ok (.iconst 0, 1) := by decide +kernel
theorem dXR_rom_12 : decode cXR_rom 12 = .ok (.ireturn, 1) := by decide +kernel
theorem dXR_rom_13 : decode cXR_rom 13 = .ok (.aload_n 0, 1) := by decide +kernel
theorem dXR_rom_14 : decode cXR_rom 14 = .ok (.getfield 7, 3) := by decide +kernel
theorem dXR_rom_17 : decode cXR_rom 17 = .ok (.iconst 2, 1) := by decide +kernel
theorem dXR_rom_18 : decode cXR_rom 18 = .ok (.iload_n 1, 1) := by decide +kernel
theorem dXR_rom_19 : decode cXR_rom 19 = .ok (.imul, 1) := by decide +kernel
theorem dXR_rom_20 : decode cXR_rom 20 = .ok (.iload_n 2, 1) := by decide +kernel
theorem dXR_rom_21 : decode cXR_rom 21 = .ok (.bipush 8, 2) := by decide +kernel
theorem dXR_rom_23 : decode cXR_rom 23 = .ok (.ishr, 1) := by decide +kernel
theorem dXR_rom_24 : decode cXR_rom 24 = .ok (.sipush 255, 3) := by decide +kernel
theorem dXR_rom_27 : decode cXR_rom 27 = .ok (.iand, 1) := by decide +kernel
theorem dXR_rom_28 : decode cXR_rom 28 = .ok (.iastore, 1) := by decide +kernel
theorem dXR_rom_29 : decode cXR_rom 29 = .ok (.aload_n 0, 1) := by decide +kernel
theorem dXR_rom_30 : decode cXR_rom 30 = .ok (.getfield 7, 3) := by decide +kernel
theorem dXR_rom_33 : decode cXR_rom 33 = .ok (.iconst 2, 1) := by decide +kernel
theorem dXR_rom_34 : decode cXR_rom 34 = .ok (.iload_n 1, 1) := by decide +kernel
theorem dXR_rom_35 : decode cXR_rom 35 = .ok (.imul, 1) := by decide +kernel
theorem dXR_rom_36 : decode cXR_rom 36 = .ok (.iconst 1, 1) := by decide +kernel
theorem dXR_rom_37 : decode cXR_rom 37 = .ok (.iadd, 1) := by decide +kernel
theorem dXR_rom_38 : decode cXR_rom 38 = .ok (.iload_n 2, 1) := by decide +kernel
theorem dXR_rom_39 : decode cXR_rom 39 = .ok (.sipush 255, 3) := by decide +kernel
theorem dXR_rom_42 : decode cXR_rom 42 = .ok (.iand, 1) := by decide +kernel
theorem dXR_rom_43 : decode cXR_rom 43 = .ok (.iastore, 1) := by decide +kernel
theorem dXR_rom_44 : decode cXR_rom 44 = .ok (.iconst 1, 1) := by decide +kernel
theorem dXR_rom_45 : decode cXR_rom 45 = .ok (.ireturn, 1) := by decide +kernel
theorem dXR_reset_0 : decode cXR_reset 0 = .ok (.iconst 0, 1) := by decide +kernel
theorem dXR_reset_1 : decode cXR_reset 1 = .ok (.istore_n 1, 1) := by decide +kernel
theorem dXR_reset_2 : decode cXR_reset 2 = .ok (.iload_n 1, 1) := by decide +kernel
theorem dXR_reset_3 : decode cXR_reset 3 = .ok (.bipush 8, 2) := by decide +kernel
theorem dXR_reset_5 : decode cXR_reset 5 = .ok (.if_icmp .ge 16, 3) := by decide +kernel
theorem dXR_reset_8 : decode cXR_reset 8 = .ok (.aload_n 0, 1) := by decide +kernel
theorem dXR_reset_9 : decode cXR_reset 9 = .ok (.getfield 16, 3) := by decide +kernel
theorem dXR_reset_12 : decode cXR_reset 12 = .ok (.iload_n 1, 1) := by decide +kernel
theorem dXR_reset_13 : decode cXR_reset 13 = .ok (.iconst 0, 1) := by decide +kernel
theorem dXR_reset_14 : decode cXR_reset 14 = .ok (.iastore, 1) := by decide +kernel
theorem dXR_reset_15 : decode cXR_reset 15 = .ok (.iinc 1 1, 3) := by decide +kernel
theorem dXR_reset_18 : decode cXR_reset 18 = .ok (.goto (-16), 3) := by decide +kernel
theorem dXR_reset_21 : decode cXR_reset 21 = .ok (.aload_n 0, 1) := by decide +kernel
theorem dXR_reset_22 : decode cXR_reset 22 = .ok (.aload_n 0, 1) := by decide +kernel
theorem dXR_reset_23 : decode cXR_reset 23 = .ok (.iconst 2, 1) := by decide +kernel
theorem dXR_reset_24 : decode cXR_reset 24 = .ok (.invokevirtual 76, 3) := by decide +kernel
theorem dXR_reset_27 : decode cXR_reset 27 = .ok (.putfield 183, 3) := by decide +kernel
theorem dXR_reset_30 : decode cXR_reset 30 = .ok (.aload_n 0, 1) := by decide +kernel
theorem dXR_reset_31 : decode cXR_reset 31 = .ok (.aload_n 0, 1) := by decide +kernel
theorem dXR_reset_32 : decode cXR_reset 32 = .ok (.bipush 6, 2) := by decide +kernel
theorem dXR_reset_34 : decode cXR_reset 34 = .ok (.invokevirtual 76, 3) := by decide +kernel
theorem dXR_reset_37 : decode cXR_reset 37 = .ok (.putfield 180, 3) := by decide +kernel
theorem dXR_reset_40 : decode cXR_reset 40 = .ok (.aload_n 0, 1) := by decide +kernel
theorem dXR_reset_41 : decode cXR_reset 41 = .ok (.sipush 1792, 3) := by decide +kernel
theorem dXR_reset_44 : decode cXR_reset 44 = .ok (.invokevirtual 217, 3) := by decide +kernel
theorem dXR_reset_47 : decode cXR_reset 47 = .ok (.aload_n 0, 1) := by decide +kernel
theorem dXR_reset_48 : decode cXR_reset 48 = .ok (.iconst 0, 1) := by decide +kernel
theorem dXR_reset_49 : decode cXR_reset 49 = .ok (.putfield 220, 3) := by decide +kernel
theorem dXR_reset_52 : decode cXR_reset 52 = .ok (.return_, 1) := by decide +kernel
theorem dXR_pad_0 : decode cXR_pad 0 = .ok (.aload_n 0, 1) := by decide +kernel
theorem dXR_pad_1 : decode cXR_pad 1 = .ok (.iload_n 1, 1) := by decide +kernel
theorem dXR_pad_2 : decode cXR_pad 2 = .ok (.sipush 255, 3) := by decide +kernel
theorem dXR_pad_5 : decode cXR_pad 5 = .ok (.iand, 1) := by decide +kernel
theorem dXR_pad_6 : decode cXR_pad 6 = .ok (.putfield 70, 3) := by decide +kernel
theorem dXR_pad_9 : decode cXR_pad 9 = .ok (.return_, 1) := by decide +kernel
theorem dXR_step_0 : decode cXR_step 0 = .ok (.aload_n 0, 1) := by decide +kernel
theorem dXR_step_1 : decode cXR_step 1 = .ok (.iconst 0, 1) := by decide +kernel
theorem dXR_step_2 : decode cXR_step 2 = .ok (.putfield 247, 3) := by decide +kernel
theorem dXR_step_5 : decode cXR_step 5 = .ok (.aload_n 0, 1) := by decide +kernel
theorem dXR_step_6 : decode cXR_step 6 = .ok (.invokevirtual 309, 3) := by decide +kernel
theorem dXR_step_9 : decode cXR_step 9 = .ok (.istore_n 1, 1) := by decide +kernel
theorem dXR_step_10 : decode cXR_step 10 = .ok (.aload_n 0, 1) := by decide +kernel
theorem dXR_step_11 : decode cXR_step 11 = .ok (.iload_n 1, 1) := by decide +kernel
theorem dXR_step_12 : decode cXR_step 12 = .ok (.invokevirtual 312, 3) := by decide +kernel
theorem dXR_step_15 : decode cXR_step 15 = .ok (.aload_n 0, 1) := by decide +kernel
theorem dXR_step_16 : decode cXR_step 16 = .ok (.iload_n 1, 1) := by decide +kernel
theorem dXR_step_17 : decode cXR_step 17 = .ok (.aload_n 0, 1) := by decide +kernel
theorem dXR_step_18 : decode cXR_step 18 = .ok (.getfield 247, 3) := by decide +kernel
theorem dXR_step_21 : decode cXR_step 21 = .ok (.iadd, 1) := by decide +kernel
theorem dXR_step_22 : decode cXR_step 22 = .ok (.invokevirtual 315, 3) := by decide +kernel
theorem dXR_step_25 : decode cXR_step 25 = .ok (.iload_n 1, 1) := by decide +kernel
theorem dXR_step_26 : decode cXR_step 26 = .ok (.aload_n 0, 1) := by decide +kernel
theorem dXR_step_27 : decode cXR_step 27 = .ok (.getfield 247, 3) := by decide +kernel
theorem dXR_step_30 : decode cXR_step 30 = .ok (.iadd, 1) := by decide +kernel
theorem dXR_step_31 : decode cXR_step 31 = .ok (.ireturn, 1) := by decide +kernel
theorem dXR_run_0 : decode cXR_run 0 = .ok (.iload_n 1, 1) := by decide +kernel
theorem dXR_run_1 : decode cXR_run 1 = .ok (.ifCond .lt 10, 3) := by decide +kernel
theorem dXR_run_4 : decode cXR_run 4 = .ok (.iload_n 1, 1) := by decide +kernel
theorem dXR_run_5 : decode cXR_run 5 = .ok (.sipush 800, 3) := by decide +kernel
theorem dXR_run_8 : decode cXR_run 8 = .ok (.if_icmp .le 5, 3) := by decide +kernel
theorem dXR_run_11 : decode cXR_run 11 = .ok (.iconst (-1), 1) := by decide +kernel
theorem dXR_run_12 : decode cXR_run 12 = .ok (.ireturn, 1) := by decide +kernel
theorem dXR_run_13 : decode cXR_run 13 = .ok (.iconst 0, 1) := by decide +kernel
theorem dXR_run_14 : decode cXR_run 14 = .ok (.istore_n 2, 1) := by decide +kernel
theorem dXR_run_15 : decode cXR_run 15 = .ok (.iload_n 2, 1) := by decide +kernel
theorem dXR_run_16 : decode cXR_run 16 = .ok (.iload_n 1, 1) := by decide +kernel
theorem dXR_run_17 : decode cXR_run 17 = .ok (.if_icmp .ge 13, 3) := by decide +kernel
theorem dXR_run_20 : decode cXR_run 20 = .ok (.iload_n 2, 1) := by decide +kernel
theorem dXR_run_21 : decode cXR_run 21 = .ok (.aload_n 0, 1) := by decide +kernel
theorem dXR_run_22 : decode cXR_run 22 = .ok (.invokevirtual 318, 3) := by decide +kernel
theorem dXR_run_25 : decode cXR_run 25 = .ok (.iadd, 1) := by decide +kernel
theorem dXR_run_26 : decode cXR_run 26 = .ok (.istore_n 2, 1) := by decide +kernel
theorem dXR_run_27 : decode cXR_run 27 = .ok (.goto (-12), 3) := by decide +kernel
theorem dXR_run_30 : decode cXR_run 30 = .ok (.iload_n 2, 1) := by decide +kernel
theorem dXR_run_31 : decode cXR_run 31 = .ok (.ireturn, 1) := by decide +kernel
theorem dXR_memory_0 : decode cXR_memory 0 = .ok (.aload_n 0, 1) := by decide +kernel
theorem dXR_memory_1 : decode cXR_memory 1 = .ok (.iload_n 1, 1) := by decide +kernel
theorem dXR_memory_2 : decode cXR_memory 2 = .ok (.invokevirtual 76, 3) := by decide +kernel
theorem dXR_memory_5 : decode cXR_memory 5 = .ok (.ireturn, 1) := by decide +kernel
theorem dXR_seed_0 : decode cXR_seed 0 = .ok (.iload_n 1, 1) := by decide +kernel
theorem dXR_seed_1 : decode cXR_seed 1 = .ok (.ifCond .lt 9, 3) := by decide +kernel
theorem dXR_seed_4 : decode cXR_seed 4 = .ok (.iload_n 1, 1) := by decide +kernel
theorem dXR_seed_5 : decode cXR_seed 5 = .ok (.bipush 127, 2) := by decide +kernel
theorem dXR_seed_7 : decode cXR_seed 7 = .ok (.if_icmp .le 5, 3) := by decide +kernel
theorem dXR_seed_10 : decode cXR_seed 10 = .ok (.iconst 0, 1) := by decide +kernel
theorem dXR_seed_11 : decode cXR_seed 11 = .ok (.ireturn, 1) := by decide +kernel
theorem dXR_seed_12 : decode cXR_seed 12 = .ok (.aload_n 0, 1) := by decide +kernel
theorem dXR_seed_13 : decode cXR_seed 13 = .ok (.getfield 19, 3) := by decide +kernel
theorem dXR_seed_16 : decode cXR_seed 16 = .ok (.iload_n 1, 1) := by decide +kernel
theorem dXR_seed_17 : decode cXR_seed 17 = .ok (.iload_n 2, 1) := by decide +kernel
theorem dXR_seed_18 : decode cXR_seed 18 = .ok (.sipush 255, 3) := by decide +kernel
theorem dXR_seed_21 : decode cXR_seed 21 = .ok (.iand, 1) := by decide +kernel
theorem dXR_seed_22 : decode cXR_seed 22 = .ok (.iastore, 1) := by decide +kernel
theorem dXR_seed_23 : decode cXR_seed 23 = .ok (.iconst 1, 1) := by decide +kernel
theorem dXR_seed_24 : decode cXR_seed 24 = .ok (.ireturn, 1) := by decide +kernel
theorem dXR_register_0 : decode cXR_register 0 = .ok (.iload_n 1, 1) := by decide +kernel
theorem dXR_register_1 : decode cXR_register 1 = .ok (.ifCond .lt 9, 3) := by decide +kernel
theorem dXR_register_4 : decode cXR_register 4 = .ok (.iload_n 1, 1) := by decide +kernel
theorem dXR_register_5 : decode cXR_register 5 = .ok (.bipush 16, 2) := by decide +kernel
theorem dXR_register_7 : decode cXR_register 7 = .ok (.if_icmp .le 5, 3) := by decide +kernel
theorem dXR_register_10 : decode cXR_register 10 = .ok (.iconst (-1), 1) := by decide +kernel
theorem dXR_register_11 : decode cXR_register 11 = .ok (.ireturn, 1) := by decide +kernel
theorem dXR_register_12 : decode cXR_register 12 = .ok (.iload_n 1, 1) := by decide +kernel
theorem dXR_register_13 : decode cXR_register 13 = .ok (.bipush 8, 2) := by decide +kernel
theorem dXR_register_15 : decode cXR_register 15 = .ok (.if_icmp .ge 10, 3) := by decide +kernel
theorem dXR_register_18 : decode cXR_register 18 = .ok (.aload_n 0, 1) := by decide +kernel
theorem dXR_register_19 : decode cXR_register 19 = .ok (.getfield 16, 3) := by decide +kernel
theorem dXR_register_22 : decode cXR_register 22 = .ok (.iload_n 1, 1) := by decide +kernel
theorem dXR_register_23 : decode cXR_register 23 = .ok (.iaload, 1) := by decide +kernel
theorem dXR_register_24 : decode cXR_register 24 = .ok (.ireturn, 1) := by decide +kernel
theorem dXR_register_25 : decode cXR_register 25 = .ok (.iload_n 1, 1) := by decide +kernel
theorem dXR_register_26 : decode cXR_register 26 = .ok (.tableswitch 107 8 15 #[46, 51, 56, 61, 87, 92, 97, 102], 46) := by decide +kernel
theorem dXR_register_72 : decode cXR_register 72 = .ok (.aload_n 0, 1) := by decide +kernel
theorem dXR_register_73 : decode cXR_register 73 = .ok (.getfield 183, 3) := by decide +kernel
theorem dXR_register_76 : decode cXR_register 76 = .ok (.ireturn, 1) := by decide +kernel
theorem dXR_register_77 : decode cXR_register 77 = .ok (.aload_n 0, 1) := by decide +kernel
theorem dXR_register_78 : decode cXR_register 78 = .ok (.getfield 180, 3) := by decide +kernel
theorem dXR_register_81 : decode cXR_register 81 = .ok (.ireturn, 1) := by decide +kernel
theorem dXR_register_82 : decode cXR_register 82 = .ok (.aload_n 0, 1) := by decide +kernel
theorem dXR_register_83 : decode cXR_register 83 = .ok (.invokevirtual 186, 3) := by decide +kernel
theorem dXR_register_86 : decode cXR_register 86 = .ok (.ireturn, 1) := by decide +kernel
theorem dXR_register_87 : decode cXR_register 87 = .ok (.aload_n 0, 1) := by decide +kernel
theorem dXR_register_88 : decode cXR_register 88 = .ok (.getfield 220, 3) := by decide +kernel
theorem dXR_register_91 : decode cXR_register 91 = .ok (.ifCond .eq 7, 3) := by decide +kernel
theorem dXR_register_94 : decode cXR_register 94 = .ok (.iconst 1, 1) := by decide +kernel
theorem dXR_register_95 : decode cXR_register 95 = .ok (.goto 4, 3) := by decide +kernel
theorem dXR_register_98 : decode cXR_register 98 = .ok (.iconst 0, 1) := by decide +kernel
theorem dXR_register_99 : decode cXR_register 99 = .ok (.aload_n 0, 1) := by decide +kernel
theorem dXR_register_100 : decode cXR_register 100 = .ok (.getfield 51, 3) := by decide +kernel
theorem dXR_register_103 : decode cXR_register 103 = .ok (.ifCond .le 7, 3) := by decide +kernel
theorem dXR_register_106 : decode cXR_register 106 = .ok (.iconst 2, 1) := by decide +kernel
theorem dXR_register_107 : decode cXR_register 107 = .ok (.goto 4, 3) := by decide +kernel
theorem dXR_register_110 : decode cXR_register 110 = .ok (.iconst 0, 1) := by decide +kernel
theorem dXR_register_111 : decode cXR_register 111 = .ok (.iadd, 1) := by decide +kernel
theorem dXR_register_112 : decode cXR_register 112 = .ok (.ireturn, 1) := by decide +kernel
theorem dXR_register_113 : decode cXR_register 113 = .ok (.aload_n 0, 1) := by decide +kernel
theorem dXR_register_114 : decode cXR_register 114 = .ok (.getfield 104, 3) := by decide +kernel
theorem dXR_register_117 : decode cXR_register 117 = .ok (.ireturn, 1) := by decide +kernel
theorem dXR_register_118 : decode cXR_register 118 = .ok (.aload_n 0, 1) := by decide +kernel
theorem dXR_register_119 : decode cXR_register 119 = .ok (.getfield 107, 3) := by decide +kernel
theorem dXR_register_122 : decode cXR_register 122 = .ok (.ireturn, 1) := by decide +kernel
theorem dXR_register_123 : decode cXR_register 123 = .ok (.aload_n 0, 1) := by decide +kernel
theorem dXR_register_124 : decode cXR_register 124 = .ok (.getfield 110, 3) := by decide +kernel
theorem dXR_register_127 : decode cXR_register 127 = .ok (.ireturn, 1) := by decide +kernel
theorem dXR_register_128 : decode cXR_register 128 = .ok (.aload_n 0, 1) := by decide +kernel
theorem dXR_register_129 : decode cXR_register 129 = .ok (.getfield 113, 3) := by decide +kernel
theorem dXR_register_132 : decode cXR_register 132 = .ok (.ireturn, 1) := by decide +kernel
theorem dXR_register_133 : decode cXR_register 133 = .ok (.aload_n 0, 1) := by decide +kernel
theorem dXR_register_134 : decode cXR_register 134 = .ok (.getfield 116, 3) := by decide +kernel
theorem dXR_register_137 : decode cXR_register 137 = .ok (.ifCond .eq 7, 3) := by decide +kernel
theorem dXR_register_140 : decode cXR_register 140 = .ok (.iconst 1, 1) := by decide +kernel
theorem dXR_register_141 : decode cXR_register 141 = .ok (.goto 4, 3) := by decide +kernel
theorem dXR_register_144 : decode cXR_register 144 = .ok (.iconst 0, 1) := by decide +kernel
theorem dXR_register_145 : decode cXR_register 145 = .ok (.aload_n 0, 1) := by decide +kernel
theorem dXR_register_146 : decode cXR_register 146 = .ok (.getfield 119, 3) := by decide +kernel
theorem dXR_register_149 : decode cXR_register 149 = .ok (.ifCond .eq 7, 3) := by decide +kernel
theorem dXR_register_152 : decode cXR_register 152 = .ok (.iconst 2, 1) := by decide +kernel
theorem dXR_register_153 : decode cXR_register 153 = .ok (.goto 4, 3) := by decide +kernel
theorem dXR_register_156 : decode cXR_register 156 = .ok (.iconst 0, 1) := by decide +kernel
theorem dXR_register_157 : decode cXR_register 157 = .ok (.iadd, 1) := by decide +kernel
theorem dXR_register_158 : decode cXR_register 158 = .ok (.aload_n 0, 1) := by decide +kernel
theorem dXR_register_159 : decode cXR_register 159 = .ok (.getfield 122, 3) := by decide +kernel
theorem dXR_register_162 : decode cXR_register 162 = .ok (.ifCond .eq 7, 3) := by decide +kernel
theorem dXR_register_165 : decode cXR_register 165 = .ok (.iconst 4, 1) := by decide +kernel
theorem dXR_register_166 : decode cXR_register 166 = .ok (.goto 4, 3) := by decide +kernel
theorem dXR_register_169 : decode cXR_register 169 = .ok (.iconst 0, 1) := by decide +kernel
theorem dXR_register_170 : decode cXR_register 170 = .ok (.iadd, 1) := by decide +kernel
theorem dXR_register_171 : decode cXR_register 171 = .ok (.aload_n 0, 1) := by decide +kernel
theorem dXR_register_172 : decode cXR_register 172 = .ok (.getfield 44, 3) := by decide +kernel
theorem dXR_register_175 : decode cXR_register 175 = .ok (.ifCond .eq 8, 3) := by decide +kernel
theorem dXR_register_178 : decode cXR_register 178 = .ok (.bipush 8, 2) := by decide +kernel
theorem dXR_register_180 : decode cXR_register 180 = .ok (.goto 4, 3) := by decide +kernel
theorem dXR_register_183 : decode cXR_register 183 = .ok (.iconst 0, 1) := by decide +kernel
theorem dXR_register_184 : decode cXR_register 184 = .ok (.iadd, 1) := by decide +kernel
theorem dXR_register_185 : decode cXR_register 185 = .ok (.aload_n 0, 1) := by decide +kernel
theorem dXR_register_186 : decode cXR_register 186 = .ok (.getfield 22, 3) := by decide +kernel
theorem dXR_register_189 : decode cXR_register 189 = .ok (.ifCond .eq 8, 3) := by decide +kernel
theorem dXR_register_192 : decode cXR_register 192 = .ok (.bipush 16, 2) := by decide +kernel
theorem dXR_register_194 : decode cXR_register 194 = .ok (.goto 4, 3) := by decide +kernel
theorem dXR_register_197 : decode cXR_register 197 = .ok (.iconst 0, 1) := by decide +kernel
theorem dXR_register_198 : decode cXR_register 198 = .ok (.iadd, 1) := by decide +kernel
theorem dXR_register_199 : decode cXR_register 199 = .ok (.ireturn, 1) := by decide +kernel
theorem dXR_video_0 : decode cXR_video 0 = .ok (.iload_n 2, 1) := by decide +kernel
theorem dXR_video_1 : decode cXR_video 1 = .ok (.ifCond .ge 5, 3) := by decide +kernel
theorem dXR_video_4 : decode cXR_video 4 = .ok (.iconst (-1), 1) := by decide +kernel
theorem dXR_video_5 : decode cXR_video 5 = .ok (.ireturn, 1) := by decide +kernel
theorem dXR_video_6 : decode cXR_video 6 = .ok (.iload_n 1, 1) := by decide +kernel
theorem dXR_video_7 : decode cXR_video 7 = .ok (.tableswitch 179 0 4 #[33, 50, 67, 83, 100], 33) := by decide +kernel
theorem dXR_video_40 : decode cXR_video 40 = .ok (.iload_n 2, 1) := by decide +kernel
theorem dXR_video_41 : decode cXR_video 41 = .ok (.sipush 512, 3) := by decide +kernel
theorem dXR_video_44 : decode cXR_video 44 = .ok (.if_icmp .ge 11, 3) := by decide +kernel
theorem dXR_video_47 : decode cXR_video 47 = .ok (.aload_n 0, 1) := by decide +kernel
theorem dXR_video_48 : decode cXR_video 48 = .ok (.iload_n 2, 1) := by decide +kernel
theorem dXR_video_49 : decode cXR_video 49 = .ok (.invokevirtual 135, 3) := by decide +kernel
theorem dXR_video_52 : decode cXR_video 52 = .ok (.goto 4, 3) := by decide +kernel
theorem dXR_video_55 : decode cXR_video 55 = .ok (.iconst (-1), 1) := by decide +kernel
theorem dXR_video_56 : decode cXR_video 56 = .ok (.ireturn, 1) := by decide +kernel
theorem dXR_video_57 : decode cXR_video 57 = .ok (.iload_n 2, 1) := by decide +kernel
theorem dXR_video_58 : decode cXR_video 58 = .ok (.bipush 16, 2) := by decide +kernel
theorem dXR_video_60 : decode cXR_video 60 = .ok (.if_icmp .ge 12, 3) := by decide +kernel
theorem dXR_video_63 : decode cXR_video 63 = .ok (.aload_n 0, 1) := by decide +kernel
theorem dXR_video_64 : decode cXR_video 64 = .ok (.getfield 29, 3) := by decide +kernel
theorem dXR_video_67 : decode cXR_video 67 = .ok (.iload_n 2, 1) := by decide +kernel
theorem dXR_video_68 : decode cXR_video 68 = .ok (.iaload, 1) := by decide +kernel
theorem dXR_video_69 : decode cXR_video 69 = .ok (.goto 4, 3) := by decide +kernel
theorem dXR_video_72 : decode cXR_video 72 = .ok (.iconst (-1), 1) := by decide +kernel
theorem dXR_video_73 : decode cXR_video 73 = .ok (.ireturn, 1) := by decide +kernel
theorem dXR_video_74 : decode cXR_video 74 = .ok (.iload_n 2, 1) := by decide +kernel
theorem dXR_video_75 : decode cXR_video 75 = .ok (.iconst 2, 1) := by decide +kernel
theorem dXR_video_76 : decode cXR_video 76 = .ok (.if_icmp .ge 12, 3) := by decide +kernel
theorem dXR_video_79 : decode cXR_video 79 = .ok (.aload_n 0, 1) := by decide +kernel
theorem dXR_video_80 : decode cXR_video 80 = .ok (.getfield 32, 3) := by decide +kernel
theorem dXR_video_83 : decode cXR_video 83 = .ok (.iload_n 2, 1) := by decide +kernel
theorem dXR_video_84 : decode cXR_video 84 = .ok (.iaload, 1) := by decide +kernel
theorem dXR_video_85 : decode cXR_video 85 = .ok (.goto 4, 3) := by decide +kernel
theorem dXR_video_88 : decode cXR_video 88 = .ok (.iconst (-1), 1) := by decide +kernel
theorem dXR_video_89 : decode cXR_video 89 = .ok (.ireturn, 1) := by decide +kernel
theorem dXR_video_90 : decode cXR_video 90 = .ok (.iload_n 2, 1) := by decide +kernel
theorem dXR_video_91 : decode cXR_video 91 = .ok (.bipush 16, 2) := by decide +kernel
theorem dXR_video_93 : decode cXR_video 93 = .ok (.if_icmp .ge 12, 3) := by decide +kernel
theorem dXR_video_96 : decode cXR_video 96 = .ok (.aload_n 0, 1) := by decide +kernel
theorem dXR_video_97 : decode cXR_video 97 = .ok (.getfield 35, 3) := by decide +kernel
theorem dXR_video_100 : decode cXR_video 100 = .ok (.iload_n 2, 1) := by decide +kernel
theorem dXR_video_101 : decode cXR_video 101 = .ok (.iaload, 1) := by decide +kernel
theorem dXR_video_102 : decode cXR_video 102 = .ok (.goto 4, 3) := by decide +kernel
theorem dXR_video_105 : decode cXR_video 105 = .ok (.iconst (-1), 1) := by decide +kernel
theorem dXR_video_106 : decode cXR_video 106 = .ok (.ireturn, 1) := by decide +kernel
theorem dXR_video_107 : decode cXR_video 107 = .ok (.iload_n 2, 1) := by decide +kernel
theorem dXR_video_108 : decode cXR_video 108 = .ok (.ifCond .ne 10, 3) := by decide +kernel
theorem dXR_video_111 : decode cXR_video 111 = .ok (.aload_n 0, 1) := by decide +kernel
theorem dXR_video_112 : decode cXR_video 112 = .ok (.getfield 128, 3) := by decide +kernel
theorem dXR_video_115 : decode cXR_video 115 = .ok (.goto 70, 3) := by decide +kernel
theorem dXR_video_118 : decode cXR_video 118 = .ok (.iload_n 2, 1) := by decide +kernel
theorem dXR_video_119 : decode cXR_video 119 = .ok (.iconst 1, 1) := by decide +kernel
theorem dXR_video_120 : decode cXR_video 120 = .ok (.if_icmp .ne 10, 3) := by decide +kernel
theorem dXR_video_123 : decode cXR_video 123 = .ok (.aload_n 0, 1) := by decide +kernel
theorem dXR_video_124 : decode cXR_video 124 = .ok (.getfield 132, 3) := by decide +kernel
theorem dXR_video_127 : decode cXR_video 127 = .ok (.goto 58, 3) := by decide +kernel
theorem dXR_video_130 : decode cXR_video 130 = .ok (.iload_n 2, 1) := by decide +kernel
theorem dXR_video_131 : decode cXR_video 131 = .ok (.iconst 2, 1) := by decide +kernel
theorem dXR_video_132 : decode cXR_video 132 = .ok (.if_icmp .ne 18, 3) := by decide +kernel
theorem dXR_video_135 : decode cXR_video 135 = .ok (.aload_n 0, 1) := by decide +kernel
theorem dXR_video_136 : decode cXR_video 136 = .ok (.getfield 67, 3) := by decide +kernel
theorem dXR_video_139 : decode cXR_video 139 = .ok (.ifCond .eq 7, 3) := by decide +kernel
theorem dXR_video_142 : decode cXR_video 142 = .ok (.iconst 1, 1) := by decide +kernel
theorem dXR_video_143 : decode cXR_video 143 = .ok (.goto 42, 3) := by decide +kernel
theorem dXR_video_146 : decode cXR_video 146 = .ok (.iconst 0, 1) := by decide +kernel
theorem dXR_video_147 : decode cXR_video 147 = .ok (.goto 38, 3) := by decide +kernel
theorem dXR_video_150 : decode cXR_video 150 = .ok (.iload_n 2, 1) := by decide +kernel
theorem dXR_video_151 : decode cXR_video 151 = .ok (.iconst 3, 1) := by decide +kernel
theorem dXR_video_152 : decode cXR_video 152 = .ok (.if_icmp .ne 32, 3) := by decide +kernel
theorem dXR_video_155 : decode cXR_video 155 = .ok (.aload_n 0, 1) := by decide +kernel
theorem dXR_video_156 : decode cXR_video 156 = .ok (.getfield 241, 3) := by decide +kernel
theorem dXR_video_159 : decode cXR_video 159 = .ok (.ifCond .eq 7, 3) := by decide +kernel
theorem dXR_video_162 : decode cXR_video 162 = .ok (.iconst 4, 1) := by decide +kernel
theorem dXR_video_163 : decode cXR_video 163 = .ok (.goto 4, 3) := by decide +kernel
theorem dXR_video_166 : decode cXR_video 166 = .ok (.iconst 0, 1) := by decide +kernel
theorem dXR_video_167 : decode cXR_video 167 = .ok (.aload_n 0, 1) := by decide +kernel
theorem dXR_video_168 : decode cXR_video 168 = .ok (.getfield 58, 3) := by decide +kernel
theorem dXR_video_171 : decode cXR_video 171 = .ok (.ifCond .eq 8, 3) := by decide +kernel
theorem dXR_video_174 : decode cXR_video 174 = .ok (.bipush 6, 2) := by decide +kernel
theorem dXR_video_176 : decode cXR_video 176 = .ok (.goto 4, 3) := by decide +kernel
theorem dXR_video_179 : decode cXR_video 179 = .ok (.iconst 0, 1) := by decide +kernel
theorem dXR_video_180 : decode cXR_video 180 = .ok (.iadd, 1) := by decide +kernel
theorem dXR_video_181 : decode cXR_video 181 = .ok (.goto 4, 3) := by decide +kernel
theorem dXR_video_184 : decode cXR_video 184 = .ok (.iconst (-1), 1) := by decide +kernel
theorem dXR_video_185 : decode cXR_video 185 = .ok (.ireturn, 1) := by decide +kernel
theorem dXR_video_186 : decode cXR_video 186 = .ok (.iconst (-1), 1) := by decide +kernel
theorem dXR_video_187 : decode cXR_video 187 = .ok (.ireturn, 1) := by decide +kernel
theorem dXR_pixel_0 : decode cXR_pixel 0 = .ok (.iload_n 1, 1) := by decide +kernel
theorem dXR_pixel_1 : decode cXR_pixel 1 = .ok (.ifCond .lt 19, 3) := by decide +kernel
theorem dXR_pixel_4 : decode cXR_pixel 4 = .ok (.iload_n 1, 1) := by decide +kernel
theorem dXR_pixel_5 : decode cXR_pixel 5 = .ok (.bipush 15, 2) := by decide +kernel
theorem dXR_pixel_7 : decode cXR_pixel 7 = .ok (.if_icmp .gt 13, 3) := by decide +kernel
theorem dXR_pixel_10 : decode cXR_pixel 10 = .ok (.iload_n 2, 1) := by decide +kernel
theorem dXR_pixel_11 : decode cXR_pixel 11 = .ok (.ifCond .lt 9, 3) := by decide +kernel
theorem dXR_pixel_14 : decode cXR_pixel 14 = .ok (.iload_n 2, 1) := by decide +kernel
theorem dXR_pixel_15 : decode cXR_pixel 15 = .ok (.bipush 7, 2) := by decide +kernel
theorem dXR_pixel_17 : decode cXR_pixel 17 = .ok (.if_icmp .le 7, 3) := by decide +kernel
theorem dXR_pixel_20 : decode cXR_pixel 20 = .ok (.iconst (-1), 1) := by decide +kernel
theorem dXR_pixel_21 : decode cXR_pixel 21 = .ok (.goto 14, 3) := by decide +kernel
theorem dXR_pixel_24 : decode cXR_pixel 24 = .ok (.aload_n 0, 1) := by decide +kernel
theorem dXR_pixel_25 : decode cXR_pixel 25 = .ok (.getfield 38, 3) := by decide +kernel
theorem dXR_pixel_28 : decode cXR_pixel 28 = .ok (.bipush 16, 2) := by decide +kernel
theorem dXR_pixel_30 : decode cXR_pixel 30 = .ok (.iload_n 2, 1) := by decide +kernel
theorem dXR_pixel_31 : decode cXR_pixel 31 = .ok (.imul, 1) := by decide +kernel
theorem dXR_pixel_32 : decode cXR_pixel 32 = .ok (.iload_n 1, 1) := by decide +kernel
theorem dXR_pixel_33 : decode cXR_pixel 33 = .ok (.iadd, 1) := by decide +kernel
theorem dXR_pixel_34 : decode cXR_pixel 34 = .ok (.iaload, 1) := by decide +kernel
theorem dXR_pixel_35 : decode cXR_pixel 35 = .ok (.ireturn, 1) := by decide +kernel
end
section
theorem tc_lw_XB : ∀ w ∈ wsXB0, w ∈ lw_tbl := by decide +kernel
theorem tc_ok_XB : ∀ w ∈ wsXB0, tc_ok w = true := by decide +kernel
theorem tc_in_XB : ∀ w ∈ u_ws RXB TXB 8, w ∈ tc_wA := fun w h => List.mem_filter.mpr ⟨tc_lw_XB w h, tc_ok_XB w h⟩
theorem tc_lw_XD : ∀ w ∈ wsXD0, w ∈ lw_tbl := by decide +kernel
theorem tc_ok_XD : ∀ w ∈ wsXD0, tc_ok w = true := by decide +kernel
theorem tc_in_XD : ∀ w ∈ u_ws RXD TXD 9, w ∈ tc_wA := fun w h => List.mem_filter.mpr ⟨tc_lw_XD w h, tc_ok_XD w h⟩
theorem tc_lw_XM : ∀ w ∈ wsXM0, w ∈ lw_tbl := by decide +kernel
theorem tc_ok_XM : ∀ w ∈ wsXM0, tc_ok w = true := by decide +kernel
theorem tc_in_XM : ∀ w ∈ u_ws RXM TXM 10, w ∈ tc_wA := fun w h => List.mem_filter.mpr ⟨tc_lw_XM w h, tc_ok_XM w h⟩
theorem tc_lw_XP : ∀ w ∈ wsXP0, w ∈ lw_tbl := by decide +kernel
theorem tc_ok_XP : ∀ w ∈ wsXP0, tc_ok w = true := by decide +kernel
theorem tc_in_XP : ∀ w ∈ u_ws RXP TXP 10, w ∈ tc_wA := fun w h => List.mem_filter.mpr ⟨tc_lw_XP w h, tc_ok_XP w h⟩
theorem tc_lw_XR : ∀ w ∈ wsXR0, w ∈ lw_tbl := by decide +kernel
theorem tc_ok_XR : ∀ w ∈ wsXR0, tc_ok w = true := by decide +kernel
theorem tc_in_XR : ∀ w ∈ u_ws RXR TXR 47, w ∈ tc_wA := fun w h => List.mem_filter.mpr ⟨tc_lw_XR w h, tc_ok_XR w h⟩
theorem tc_lw_XS : ∀ w ∈ wsXS0, w ∈ lw_tbl := by decide +kernel
theorem tc_ok_XS : ∀ w ∈ wsXS0, tc_ok w = true := by decide +kernel
theorem tc_in_XS : ∀ w ∈ u_ws RXS TXS 13, w ∈ tc_wA := fun w h => List.mem_filter.mpr ⟨tc_lw_XS w h, tc_ok_XS w h⟩
theorem tc_lw_XT : ∀ w ∈ wsXT0, w ∈ lw_tbl := by decide +kernel
theorem tc_ok_XT : ∀ w ∈ wsXT0, tc_ok w = true := by decide +kernel
theorem tc_in_XT : ∀ w ∈ u_ws RXT TXT 7, w ∈ tc_wA := fun w h => List.mem_filter.mpr ⟨tc_lw_XT w h, tc_ok_XT w h⟩
theorem tc_lw_XU : ∀ w ∈ wsXU0, w ∈ lw_tbl := by decide +kernel
theorem tc_ok_XU : ∀ w ∈ wsXU0, tc_ok w = true := by decide +kernel
theorem tc_in_XU : ∀ w ∈ u_ws RXU TXU 8, w ∈ tc_wA := fun w h => List.mem_filter.mpr ⟨tc_lw_XU w h, tc_ok_XU w h⟩
theorem tw_266 : (Jvm.Cond.fieldLink "TwinConsole" (7 : Nat) "TwinConsole" "romWords" "[I") ∈ tc_wA := tc_mem (i := 266) (by decide +kernel) (by decide +kernel)
theorem tw_292 : (Jvm.Cond.constant "TwinConsole" (65 : Nat) (65535 : Int32)) ∈ tc_wA := tc_mem (i := 292) (by decide +kernel) (by decide +kernel)
theorem tw_272 : (Jvm.Cond.fieldLink "TwinConsole" (61 : Nat) "TwinConsole" "main" "LTwinConsole$MainProcessor;") ∈ tc_wA := tc_mem (i := 272) (by decide +kernel) (by decide +kernel)
theorem tw_231 : (Jvm.Cond.fieldLink "TwinConsole$MainProcessor" (13 : Nat) "TwinConsole$MainProcessor" "d" "[I") ∈ tc_wA := tc_mem (i := 231) (by decide +kernel) (by decide +kernel)
theorem tw_237 : (Jvm.Cond.fieldLink "TwinConsole$MainProcessor" (38 : Nat) "TwinConsole$MainProcessor" "mask" "I") ∈ tc_wA := tc_mem (i := 237) (by decide +kernel) (by decide +kernel)
theorem tw_239 : (Jvm.Cond.fieldLink "TwinConsole$MainProcessor" (41 : Nat) "TwinConsole$MainProcessor" "negative" "Z") ∈ tc_wA := tc_mem (i := 239) (by decide +kernel) (by decide +kernel)
theorem tw_240 : (Jvm.Cond.fieldLink "TwinConsole$MainProcessor" (44 : Nat) "TwinConsole$MainProcessor" "zero" "Z") ∈ tc_wA := tc_mem (i := 240) (by decide +kernel) (by decide +kernel)
theorem tw_241 : (Jvm.Cond.fieldLink "TwinConsole$MainProcessor" (47 : Nat) "TwinConsole$MainProcessor" "overflow" "Z") ∈ tc_wA := tc_mem (i := 241) (by decide +kernel) (by decide +kernel)
theorem tw_242 : (Jvm.Cond.fieldLink "TwinConsole$MainProcessor" (50 : Nat) "TwinConsole$MainProcessor" "carry" "Z") ∈ tc_wA := tc_mem (i := 242) (by decide +kernel) (by decide +kernel)
theorem tw_230 : (Jvm.Cond.fieldLink "TwinConsole$MainProcessor" (7 : Nat) "TwinConsole$MainProcessor" "bus" "LTwinConsole$Bus;") ∈ tc_wA := tc_mem (i := 230) (by decide +kernel) (by decide +kernel)
theorem tw_200 : (Jvm.Cond.fieldLink "TwinConsole$Bus" (13 : Nat) "TwinConsole$Bus" "second" "LTwinConsole$SecondProcessor;") ∈ tc_wA := tc_mem (i := 200) (by decide +kernel) (by decide +kernel)
theorem tw_38 : (Jvm.Cond.fieldLink "TwinConsole$SecondProcessor" (20 : Nat) "TwinConsole$SecondProcessor" "held" "Z") ∈ tc_wA := tc_mem (i := 38) (by decide +kernel) (by decide +kernel)
theorem tw_40 : (Jvm.Cond.fieldLink "TwinConsole$SecondProcessor" (16 : Nat) "TwinConsole$SecondProcessor" "inReset" "Z") ∈ tc_wA := tc_mem (i := 40) (by decide +kernel) (by decide +kernel)
theorem tw_25 : (Jvm.Cond.fieldLinkNest "TwinConsole$Bus" (38 : Nat) "TwinConsole$SecondProcessor" "ram" "[I" "TwinConsole") ∈ tc_wA := tc_mem (i := 25) (by decide +kernel) (by decide +kernel)
theorem tw_199 : (Jvm.Cond.fieldLink "TwinConsole$Bus" (29 : Nat) "TwinConsole$Bus" "ram" "[I") ∈ tc_wA := tc_mem (i := 199) (by decide +kernel) (by decide +kernel)
theorem tw_198 : (Jvm.Cond.fieldLink "TwinConsole$Bus" (7 : Nat) "TwinConsole$Bus" "romWords" "[I") ∈ tc_wA := tc_mem (i := 198) (by decide +kernel) (by decide +kernel)
theorem tw_233 : (Jvm.Cond.fieldLink "TwinConsole$MainProcessor" (27 : Nat) "TwinConsole$MainProcessor" "s" "I") ∈ tc_wA := tc_mem (i := 233) (by decide +kernel) (by decide +kernel)
theorem tw_235 : (Jvm.Cond.fieldLink "TwinConsole$MainProcessor" (31 : Nat) "TwinConsole$MainProcessor" "pc" "I") ∈ tc_wA := tc_mem (i := 235) (by decide +kernel) (by decide +kernel)
theorem tw_243 : (Jvm.Cond.fieldLink "TwinConsole$MainProcessor" (34 : Nat) "TwinConsole$MainProcessor" "waits" "Z") ∈ tc_wA := tc_mem (i := 243) (by decide +kernel) (by decide +kernel)
theorem tw_271 : (Jvm.Cond.fieldLink "TwinConsole" (52 : Nat) "TwinConsole" "bus" "LTwinConsole$Bus;") ∈ tc_wA := tc_mem (i := 271) (by decide +kernel) (by decide +kernel)
theorem tw_204 : (Jvm.Cond.fieldLinkNest "TwinConsole" (69 : Nat) "TwinConsole$Bus" "padKeys" "I" "TwinConsole") ∈ tc_wA := tc_mem (i := 204) (by decide +kernel) (by decide +kernel)
theorem tw_270 : (Jvm.Cond.fieldLink "TwinConsole" (43 : Nat) "TwinConsole" "beam" "LTwinConsole$Beam;") ∈ tc_wA := tc_mem (i := 270) (by decide +kernel) (by decide +kernel)
theorem tw_238 : (Jvm.Cond.fieldLinkNest "TwinConsole" (154 : Nat) "TwinConsole$MainProcessor" "mask" "I" "TwinConsole") ∈ tc_wA := tc_mem (i := 238) (by decide +kernel) (by decide +kernel)
theorem tw_172 : (Jvm.Cond.fieldLink "TwinConsole$Beam" (21 : Nat) "TwinConsole$Beam" "pending6" "Z") ∈ tc_wA := tc_mem (i := 172) (by decide +kernel) (by decide +kernel)
theorem tw_170 : (Jvm.Cond.fieldLink "TwinConsole$Beam" (25 : Nat) "TwinConsole$Beam" "pending4" "Z") ∈ tc_wA := tc_mem (i := 170) (by decide +kernel) (by decide +kernel)
theorem tw_268 : (Jvm.Cond.fieldLink "TwinConsole" (25 : Nat) "TwinConsole" "picture" "LTwinConsole$PictureUnit;") ∈ tc_wA := tc_mem (i := 268) (by decide +kernel) (by decide +kernel)
theorem tw_95 : (Jvm.Cond.fieldLink "TwinConsole$PictureUnit" (22 : Nat) "TwinConsole$PictureUnit" "wordsLeft" "I") ∈ tc_wA := tc_mem (i := 95) (by decide +kernel) (by decide +kernel)
theorem tw_244 : (Jvm.Cond.fieldLinkNest "TwinConsole" (93 : Nat) "TwinConsole$MainProcessor" "waits" "Z" "TwinConsole") ∈ tc_wA := tc_mem (i := 244) (by decide +kernel) (by decide +kernel)
theorem tw_267 : (Jvm.Cond.fieldLink "TwinConsole" (18 : Nat) "TwinConsole" "second" "LTwinConsole$SecondProcessor;") ∈ tc_wA := tc_mem (i := 267) (by decide +kernel) (by decide +kernel)
theorem tw_42 : (Jvm.Cond.fieldLink "TwinConsole$SecondProcessor" (32 : Nat) "TwinConsole$SecondProcessor" "mainLate" "I") ∈ tc_wA := tc_mem (i := 42) (by decide +kernel) (by decide +kernel)
theorem tw_368 : (Jvm.Cond.constant "TwinConsole$MainProcessor" (78 : Nat) (65535 : Int32)) ∈ tc_wA := tc_mem (i := 368) (by decide +kernel) (by decide +kernel)
theorem tw_201 : (Jvm.Cond.fieldLink "TwinConsole$Bus" (17 : Nat) "TwinConsole$Bus" "picture" "LTwinConsole$PictureUnit;") ∈ tc_wA := tc_mem (i := 201) (by decide +kernel) (by decide +kernel)
theorem tw_91 : (Jvm.Cond.fieldLink "TwinConsole$PictureUnit" (26 : Nat) "TwinConsole$PictureUnit" "wordWaitedFor" "Z") ∈ tc_wA := tc_mem (i := 91) (by decide +kernel) (by decide +kernel)
theorem tw_87 : (Jvm.Cond.fieldLink "TwinConsole$PictureUnit" (34 : Nat) "TwinConsole$PictureUnit" "address" "I") ∈ tc_wA := tc_mem (i := 87) (by decide +kernel) (by decide +kernel)
theorem tw_89 : (Jvm.Cond.fieldLink "TwinConsole$PictureUnit" (37 : Nat) "TwinConsole$PictureUnit" "code" "I") ∈ tc_wA := tc_mem (i := 89) (by decide +kernel) (by decide +kernel)
theorem tw_77 : (Jvm.Cond.fieldLink "TwinConsole$PictureUnit" (7 : Nat) "TwinConsole$PictureUnit" "vramBytes" "[I") ∈ tc_wA := tc_mem (i := 77) (by decide +kernel) (by decide +kernel)
theorem tw_84 : (Jvm.Cond.fieldLink "TwinConsole$PictureUnit" (19 : Nat) "TwinConsole$PictureUnit" "registers" "[I") ∈ tc_wA := tc_mem (i := 84) (by decide +kernel) (by decide +kernel)
theorem tw_350 : (Jvm.Cond.constant "TwinConsole$PictureUnit" (75 : Nat) (65535 : Int32)) ∈ tc_wA := tc_mem (i := 350) (by decide +kernel) (by decide +kernel)
theorem tw_78 : (Jvm.Cond.fieldLink "TwinConsole$PictureUnit" (13 : Nat) "TwinConsole$PictureUnit" "cram" "[I") ∈ tc_wA := tc_mem (i := 78) (by decide +kernel) (by decide +kernel)
theorem tw_80 : (Jvm.Cond.fieldLink "TwinConsole$PictureUnit" (16 : Nat) "TwinConsole$PictureUnit" "vsram" "[I") ∈ tc_wA := tc_mem (i := 80) (by decide +kernel) (by decide +kernel)
theorem tw_94 : (Jvm.Cond.fieldLink "TwinConsole$PictureUnit" (40 : Nat) "TwinConsole$PictureUnit" "fillWaitedFor" "Z") ∈ tc_wA := tc_mem (i := 94) (by decide +kernel) (by decide +kernel)
theorem tw_96 : (Jvm.Cond.fieldLink "TwinConsole$PictureUnit" (53 : Nat) "TwinConsole$PictureUnit" "source" "I") ∈ tc_wA := tc_mem (i := 96) (by decide +kernel) (by decide +kernel)
theorem tw_397 : (Jvm.Cond.constant "TwinConsole$PictureUnit" (74 : Nat) (49152 : Int32)) ∈ tc_wA := tc_mem (i := 397) (by decide +kernel) (by decide +kernel)
theorem tw_39 : (Jvm.Cond.fieldLinkNest "TwinConsole$Bus" (57 : Nat) "TwinConsole$SecondProcessor" "held" "Z" "TwinConsole") ∈ tc_wA := tc_mem (i := 39) (by decide +kernel) (by decide +kernel)
theorem tw_27 : (Jvm.Cond.fieldLink "TwinConsole$SecondProcessor" (36 : Nat) "TwinConsole$SecondProcessor" "a" "I") ∈ tc_wA := tc_mem (i := 27) (by decide +kernel) (by decide +kernel)
theorem tw_29 : (Jvm.Cond.fieldLink "TwinConsole$SecondProcessor" (39 : Nat) "TwinConsole$SecondProcessor" "b" "I") ∈ tc_wA := tc_mem (i := 29) (by decide +kernel) (by decide +kernel)
theorem tw_31 : (Jvm.Cond.fieldLink "TwinConsole$SecondProcessor" (42 : Nat) "TwinConsole$SecondProcessor" "h" "I") ∈ tc_wA := tc_mem (i := 31) (by decide +kernel) (by decide +kernel)
theorem tw_33 : (Jvm.Cond.fieldLink "TwinConsole$SecondProcessor" (45 : Nat) "TwinConsole$SecondProcessor" "pc" "I") ∈ tc_wA := tc_mem (i := 33) (by decide +kernel) (by decide +kernel)
theorem tw_35 : (Jvm.Cond.fieldLink "TwinConsole$SecondProcessor" (23 : Nat) "TwinConsole$SecondProcessor" "zero" "Z") ∈ tc_wA := tc_mem (i := 35) (by decide +kernel) (by decide +kernel)
theorem tw_36 : (Jvm.Cond.fieldLink "TwinConsole$SecondProcessor" (26 : Nat) "TwinConsole$SecondProcessor" "halted" "Z") ∈ tc_wA := tc_mem (i := 36) (by decide +kernel) (by decide +kernel)
theorem tw_37 : (Jvm.Cond.fieldLink "TwinConsole$SecondProcessor" (29 : Nat) "TwinConsole$SecondProcessor" "letsIn" "Z") ∈ tc_wA := tc_mem (i := 37) (by decide +kernel) (by decide +kernel)
theorem tw_41 : (Jvm.Cond.fieldLink "TwinConsole$SecondProcessor" (48 : Nat) "TwinConsole$SecondProcessor" "cyclesLeft" "I") ∈ tc_wA := tc_mem (i := 41) (by decide +kernel) (by decide +kernel)
theorem tw_206 : (Jvm.Cond.fieldLink "TwinConsole$Bus" (79 : Nat) "TwinConsole$Bus" "padSelect" "I") ∈ tc_wA := tc_mem (i := 206) (by decide +kernel) (by decide +kernel)
theorem tw_464 : (Jvm.Cond.constant "TwinConsole$MainProcessor" (96 : Nat) (65528 : Int32)) ∈ tc_wA := tc_mem (i := 464) (by decide +kernel) (by decide +kernel)
theorem tw_92 : (Jvm.Cond.fieldLinkNest "TwinConsole$Bus" (92 : Nat) "TwinConsole$PictureUnit" "wordWaitedFor" "Z" "TwinConsole") ∈ tc_wA := tc_mem (i := 92) (by decide +kernel) (by decide +kernel)
theorem tw_203 : (Jvm.Cond.fieldLink "TwinConsole$Bus" (25 : Nat) "TwinConsole$Bus" "beam" "LTwinConsole$Beam;") ∈ tc_wA := tc_mem (i := 203) (by decide +kernel) (by decide +kernel)
theorem tw_165 : (Jvm.Cond.fieldLinkNest "TwinConsole$Bus" (48 : Nat) "TwinConsole$Beam" "line" "I" "TwinConsole") ∈ tc_wA := tc_mem (i := 165) (by decide +kernel) (by decide +kernel)
theorem tw_173 : (Jvm.Cond.fieldLinkNest "TwinConsole$Bus" (100 : Nat) "TwinConsole$Beam" "pending6" "Z" "TwinConsole") ∈ tc_wA := tc_mem (i := 173) (by decide +kernel) (by decide +kernel)
theorem tw_202 : (Jvm.Cond.fieldLink "TwinConsole$Bus" (21 : Nat) "TwinConsole$Bus" "painter" "LTwinConsole$Painter;") ∈ tc_wA := tc_mem (i := 202) (by decide +kernel) (by decide +kernel)
theorem tw_133 : (Jvm.Cond.fieldLinkNest "TwinConsole$Bus" (103 : Nat) "TwinConsole$Painter" "collided" "Z" "TwinConsole") ∈ tc_wA := tc_mem (i := 133) (by decide +kernel) (by decide +kernel)
theorem tw_136 : (Jvm.Cond.fieldLinkNest "TwinConsole$Bus" (106 : Nat) "TwinConsole$Painter" "tooMany" "Z" "TwinConsole") ∈ tc_wA := tc_mem (i := 136) (by decide +kernel) (by decide +kernel)
theorem tw_167 : (Jvm.Cond.fieldLinkNest "TwinConsole$Bus" (54 : Nat) "TwinConsole$Beam" "cycle" "I" "TwinConsole") ∈ tc_wA := tc_mem (i := 167) (by decide +kernel) (by decide +kernel)
theorem tw_205 : (Jvm.Cond.fieldLink "TwinConsole$Bus" (109 : Nat) "TwinConsole$Bus" "padKeys" "I") ∈ tc_wA := tc_mem (i := 205) (by decide +kernel) (by decide +kernel)
theorem tw_438 : (Jvm.Cond.constant "TwinConsole$MainProcessor" (89 : Nat) (-65536 : Int32)) ∈ tc_wA := tc_mem (i := 438) (by decide +kernel) (by decide +kernel)
theorem tw_510 : (Jvm.Cond.constant "TwinConsole$SecondProcessor" (80 : Nat) (32768 : Int32)) ∈ tc_wA := tc_mem (i := 510) (by decide +kernel) (by decide +kernel)
theorem tw_23 : (Jvm.Cond.fieldLink "TwinConsole$SecondProcessor" (7 : Nat) "TwinConsole$SecondProcessor" "romWords" "[I") ∈ tc_wA := tc_mem (i := 23) (by decide +kernel) (by decide +kernel)
theorem tw_24 : (Jvm.Cond.fieldLink "TwinConsole$SecondProcessor" (13 : Nat) "TwinConsole$SecondProcessor" "ram" "[I") ∈ tc_wA := tc_mem (i := 24) (by decide +kernel) (by decide +kernel)
theorem tw_511 : (Jvm.Cond.constant "TwinConsole$SecondProcessor" (79 : Nat) (65535 : Int32)) ∈ tc_wA := tc_mem (i := 511) (by decide +kernel) (by decide +kernel)
theorem tw_168 : (Jvm.Cond.fieldLink "TwinConsole$Beam" (28 : Nat) "TwinConsole$Beam" "cycle" "I") ∈ tc_wA := tc_mem (i := 168) (by decide +kernel) (by decide +kernel)
theorem tw_166 : (Jvm.Cond.fieldLink "TwinConsole$Beam" (32 : Nat) "TwinConsole$Beam" "line" "I") ∈ tc_wA := tc_mem (i := 166) (by decide +kernel) (by decide +kernel)
theorem tw_162 : (Jvm.Cond.fieldLink "TwinConsole$Beam" (7 : Nat) "TwinConsole$Beam" "picture" "LTwinConsole$PictureUnit;") ∈ tc_wA := tc_mem (i := 162) (by decide +kernel) (by decide +kernel)
theorem tw_85 : (Jvm.Cond.fieldLinkNest "TwinConsole$Beam" (47 : Nat) "TwinConsole$PictureUnit" "registers" "[I" "TwinConsole") ∈ tc_wA := tc_mem (i := 85) (by decide +kernel) (by decide +kernel)
theorem tw_169 : (Jvm.Cond.fieldLink "TwinConsole$Beam" (53 : Nat) "TwinConsole$Beam" "counter" "I") ∈ tc_wA := tc_mem (i := 169) (by decide +kernel) (by decide +kernel)
theorem tw_164 : (Jvm.Cond.fieldLink "TwinConsole$Beam" (17 : Nat) "TwinConsole$Beam" "second" "LTwinConsole$SecondProcessor;") ∈ tc_wA := tc_mem (i := 164) (by decide +kernel) (by decide +kernel)
theorem tw_163 : (Jvm.Cond.fieldLink "TwinConsole$Beam" (13 : Nat) "TwinConsole$Beam" "painter" "LTwinConsole$Painter;") ∈ tc_wA := tc_mem (i := 163) (by decide +kernel) (by decide +kernel)
theorem tw_126 : (Jvm.Cond.fieldLink "TwinConsole$Painter" (19 : Nat) "TwinConsole$Painter" "registers" "[I") ∈ tc_wA := tc_mem (i := 126) (by decide +kernel) (by decide +kernel)
theorem tw_127 : (Jvm.Cond.fieldLink "TwinConsole$Painter" (20 : Nat) "TwinConsole$Painter" "screen" "[I") ∈ tc_wA := tc_mem (i := 127) (by decide +kernel) (by decide +kernel)
theorem tw_131 : (Jvm.Cond.fieldLink "TwinConsole$Painter" (29 : Nat) "TwinConsole$Painter" "dotsOfSprites" "[I") ∈ tc_wA := tc_mem (i := 131) (by decide +kernel) (by decide +kernel)
theorem tw_129 : (Jvm.Cond.fieldLink "TwinConsole$Painter" (23 : Nat) "TwinConsole$Painter" "dotsOfA" "[I") ∈ tc_wA := tc_mem (i := 129) (by decide +kernel) (by decide +kernel)
theorem tw_130 : (Jvm.Cond.fieldLink "TwinConsole$Painter" (26 : Nat) "TwinConsole$Painter" "dotsOfB" "[I") ∈ tc_wA := tc_mem (i := 130) (by decide +kernel) (by decide +kernel)
theorem tw_125 : (Jvm.Cond.fieldLink "TwinConsole$Painter" (7 : Nat) "TwinConsole$Painter" "picture" "LTwinConsole$PictureUnit;") ∈ tc_wA := tc_mem (i := 125) (by decide +kernel) (by decide +kernel)
theorem tw_81 : (Jvm.Cond.fieldLinkNest "TwinConsole$Painter" (51 : Nat) "TwinConsole$PictureUnit" "vsram" "[I" "TwinConsole") ∈ tc_wA := tc_mem (i := 81) (by decide +kernel) (by decide +kernel)
theorem tw_545 : (Jvm.Cond.constant "TwinConsole$Painter" (57 : Nat) (32768 : Int32)) ∈ tc_wA := tc_mem (i := 545) (by decide +kernel) (by decide +kernel)
theorem tw_132 : (Jvm.Cond.fieldLink "TwinConsole$Painter" (32 : Nat) "TwinConsole$Painter" "taken" "[I") ∈ tc_wA := tc_mem (i := 132) (by decide +kernel) (by decide +kernel)
theorem tw_135 : (Jvm.Cond.fieldLink "TwinConsole$Painter" (69 : Nat) "TwinConsole$Painter" "tooMany" "Z") ∈ tc_wA := tc_mem (i := 135) (by decide +kernel) (by decide +kernel)
theorem tw_134 : (Jvm.Cond.fieldLink "TwinConsole$Painter" (73 : Nat) "TwinConsole$Painter" "collided" "Z") ∈ tc_wA := tc_mem (i := 134) (by decide +kernel) (by decide +kernel)
theorem tw_97 : (Jvm.Cond.fieldLinkNest "TwinConsole$Bus" (86 : Nat) "TwinConsole$PictureUnit" "source" "I" "TwinConsole") ∈ tc_wA := tc_mem (i := 97) (by decide +kernel) (by decide +kernel)
theorem tw_351 : (Jvm.Cond.constant "TwinConsole$PictureUnit" (70 : Nat) (64512 : Int32)) ∈ tc_wA := tc_mem (i := 351) (by decide +kernel) (by decide +kernel)
theorem tw_234 : (Jvm.Cond.fieldLinkNest "TwinConsole" (84 : Nat) "TwinConsole$MainProcessor" "s" "I" "TwinConsole") ∈ tc_wA := tc_mem (i := 234) (by decide +kernel) (by decide +kernel)
theorem tw_236 : (Jvm.Cond.fieldLinkNest "TwinConsole" (87 : Nat) "TwinConsole$MainProcessor" "pc" "I" "TwinConsole") ∈ tc_wA := tc_mem (i := 236) (by decide +kernel) (by decide +kernel)
theorem tw_28 : (Jvm.Cond.fieldLinkNest "TwinConsole" (101 : Nat) "TwinConsole$SecondProcessor" "a" "I" "TwinConsole") ∈ tc_wA := tc_mem (i := 28) (by decide +kernel) (by decide +kernel)
theorem tw_30 : (Jvm.Cond.fieldLinkNest "TwinConsole" (104 : Nat) "TwinConsole$SecondProcessor" "b" "I" "TwinConsole") ∈ tc_wA := tc_mem (i := 30) (by decide +kernel) (by decide +kernel)
theorem tw_32 : (Jvm.Cond.fieldLinkNest "TwinConsole" (107 : Nat) "TwinConsole$SecondProcessor" "h" "I" "TwinConsole") ∈ tc_wA := tc_mem (i := 32) (by decide +kernel) (by decide +kernel)
theorem tw_34 : (Jvm.Cond.fieldLinkNest "TwinConsole" (110 : Nat) "TwinConsole$SecondProcessor" "pc" "I" "TwinConsole") ∈ tc_wA := tc_mem (i := 34) (by decide +kernel) (by decide +kernel)
theorem tw_232 : (Jvm.Cond.fieldLinkNest "TwinConsole" (81 : Nat) "TwinConsole$MainProcessor" "d" "[I" "TwinConsole") ∈ tc_wA := tc_mem (i := 232) (by decide +kernel) (by decide +kernel)
theorem tw_26 : (Jvm.Cond.fieldLinkNest "TwinConsole" (114 : Nat) "TwinConsole$SecondProcessor" "ram" "[I" "TwinConsole") ∈ tc_wA := tc_mem (i := 26) (by decide +kernel) (by decide +kernel)
theorem tw_79 : (Jvm.Cond.fieldLinkNest "TwinConsole" (120 : Nat) "TwinConsole$PictureUnit" "cram" "[I" "TwinConsole") ∈ tc_wA := tc_mem (i := 79) (by decide +kernel) (by decide +kernel)
theorem tw_82 : (Jvm.Cond.fieldLinkNest "TwinConsole" (127 : Nat) "TwinConsole$PictureUnit" "vsram" "[I" "TwinConsole") ∈ tc_wA := tc_mem (i := 82) (by decide +kernel) (by decide +kernel)
theorem tw_86 : (Jvm.Cond.fieldLinkNest "TwinConsole" (130 : Nat) "TwinConsole$PictureUnit" "registers" "[I" "TwinConsole") ∈ tc_wA := tc_mem (i := 86) (by decide +kernel) (by decide +kernel)
theorem tw_88 : (Jvm.Cond.fieldLinkNest "TwinConsole" (139 : Nat) "TwinConsole$PictureUnit" "address" "I" "TwinConsole") ∈ tc_wA := tc_mem (i := 88) (by decide +kernel) (by decide +kernel)
theorem tw_90 : (Jvm.Cond.fieldLinkNest "TwinConsole" (142 : Nat) "TwinConsole$PictureUnit" "code" "I" "TwinConsole") ∈ tc_wA := tc_mem (i := 90) (by decide +kernel) (by decide +kernel)
theorem tw_93 : (Jvm.Cond.fieldLinkNest "TwinConsole" (145 : Nat) "TwinConsole$PictureUnit" "wordWaitedFor" "Z" "TwinConsole") ∈ tc_wA := tc_mem (i := 93) (by decide +kernel) (by decide +kernel)
theorem tw_171 : (Jvm.Cond.fieldLinkNest "TwinConsole" (148 : Nat) "TwinConsole$Beam" "pending4" "Z" "TwinConsole") ∈ tc_wA := tc_mem (i := 171) (by decide +kernel) (by decide +kernel)
theorem tw_174 : (Jvm.Cond.fieldLinkNest "TwinConsole" (151 : Nat) "TwinConsole$Beam" "pending6" "Z" "TwinConsole") ∈ tc_wA := tc_mem (i := 174) (by decide +kernel) (by decide +kernel)
theorem tw_269 : (Jvm.Cond.fieldLink "TwinConsole" (34 : Nat) "TwinConsole" "painter" "LTwinConsole$Painter;") ∈ tc_wA := tc_mem (i := 269) (by decide +kernel) (by decide +kernel)
theorem tw_128 : (Jvm.Cond.fieldLinkNest "TwinConsole" (136 : Nat) "TwinConsole$Painter" "screen" "[I" "TwinConsole") ∈ tc_wA := tc_mem (i := 128) (by decide +kernel) (by decide +kernel)
theorem tw_621 : (Jvm.Cond.fieldLink "TwinConsoleModel" (7 : Nat) "TwinConsoleModel" "rom" "[I") ∈ tc_wA := tc_mem (i := 621) (by decide +kernel) (by decide +kernel)
theorem tw_646 : (Jvm.Cond.fieldLink "TwinConsoleModel" (44 : Nat) "TwinConsoleModel" "held" "Z") ∈ tc_wA := tc_mem (i := 646) (by decide +kernel) (by decide +kernel)
theorem tw_647 : (Jvm.Cond.fieldLink "TwinConsoleModel" (22 : Nat) "TwinConsoleModel" "inReset" "Z") ∈ tc_wA := tc_mem (i := 647) (by decide +kernel) (by decide +kernel)
theorem tw_638 : (Jvm.Cond.fieldLink "TwinConsoleModel" (19 : Nat) "TwinConsoleModel" "bytes" "[I") ∈ tc_wA := tc_mem (i := 638) (by decide +kernel) (by decide +kernel)
theorem tw_622 : (Jvm.Cond.fieldLink "TwinConsoleModel" (13 : Nat) "TwinConsoleModel" "ram" "[I") ∈ tc_wA := tc_mem (i := 622) (by decide +kernel) (by decide +kernel)
theorem tw_624 : (Jvm.Cond.fieldLink "TwinConsoleModel" (183 : Nat) "TwinConsoleModel" "s" "I") ∈ tc_wA := tc_mem (i := 624) (by decide +kernel) (by decide +kernel)
theorem tw_625 : (Jvm.Cond.fieldLink "TwinConsoleModel" (180 : Nat) "TwinConsoleModel" "pc" "I") ∈ tc_wA := tc_mem (i := 625) (by decide +kernel) (by decide +kernel)
theorem tw_626 : (Jvm.Cond.fieldLink "TwinConsoleModel" (163 : Nat) "TwinConsoleModel" "mask" "I") ∈ tc_wA := tc_mem (i := 626) (by decide +kernel) (by decide +kernel)
theorem tw_627 : (Jvm.Cond.fieldLink "TwinConsoleModel" (166 : Nat) "TwinConsoleModel" "n" "Z") ∈ tc_wA := tc_mem (i := 627) (by decide +kernel) (by decide +kernel)
theorem tw_628 : (Jvm.Cond.fieldLink "TwinConsoleModel" (169 : Nat) "TwinConsoleModel" "z" "Z") ∈ tc_wA := tc_mem (i := 628) (by decide +kernel) (by decide +kernel)
theorem tw_629 : (Jvm.Cond.fieldLink "TwinConsoleModel" (172 : Nat) "TwinConsoleModel" "v" "Z") ∈ tc_wA := tc_mem (i := 629) (by decide +kernel) (by decide +kernel)
theorem tw_630 : (Jvm.Cond.fieldLink "TwinConsoleModel" (175 : Nat) "TwinConsoleModel" "c" "Z") ∈ tc_wA := tc_mem (i := 630) (by decide +kernel) (by decide +kernel)
theorem tw_631 : (Jvm.Cond.fieldLink "TwinConsoleModel" (220 : Nat) "TwinConsoleModel" "waits" "Z") ∈ tc_wA := tc_mem (i := 631) (by decide +kernel) (by decide +kernel)
theorem tw_623 : (Jvm.Cond.fieldLink "TwinConsoleModel" (16 : Nat) "TwinConsoleModel" "d" "[I") ∈ tc_wA := tc_mem (i := 623) (by decide +kernel) (by decide +kernel)
theorem tw_636 : (Jvm.Cond.fieldLink "TwinConsoleModel" (70 : Nat) "TwinConsoleModel" "padBits" "I") ∈ tc_wA := tc_mem (i := 636) (by decide +kernel) (by decide +kernel)
theorem tw_633 : (Jvm.Cond.fieldLink "TwinConsoleModel" (247 : Nat) "TwinConsoleModel" "extra" "I") ∈ tc_wA := tc_mem (i := 633) (by decide +kernel) (by decide +kernel)
theorem tw_658 : (Jvm.Cond.fieldLink "TwinConsoleModel" (51 : Nat) "TwinConsoleModel" "moving" "I") ∈ tc_wA := tc_mem (i := 658) (by decide +kernel) (by decide +kernel)
theorem tw_635 : (Jvm.Cond.fieldLink "TwinConsoleModel" (58 : Nat) "TwinConsoleModel" "pending6" "Z") ∈ tc_wA := tc_mem (i := 635) (by decide +kernel) (by decide +kernel)
theorem tw_634 : (Jvm.Cond.fieldLink "TwinConsoleModel" (241 : Nat) "TwinConsoleModel" "pending4" "Z") ∈ tc_wA := tc_mem (i := 634) (by decide +kernel) (by decide +kernel)
theorem tw_632 : (Jvm.Cond.fieldLink "TwinConsoleModel" (244 : Nat) "TwinConsoleModel" "debt" "I") ∈ tc_wA := tc_mem (i := 632) (by decide +kernel) (by decide +kernel)
theorem tw_807 : (Jvm.Cond.constant "TwinConsoleModel" (131 : Nat) (65535 : Int32)) ∈ tc_wA := tc_mem (i := 807) (by decide +kernel) (by decide +kernel)
theorem tw_865 : (Jvm.Cond.constant "TwinConsoleModel" (197 : Nat) (61944 : Int32)) ∈ tc_wA := tc_mem (i := 865) (by decide +kernel) (by decide +kernel)
theorem tw_866 : (Jvm.Cond.constant "TwinConsoleModel" (198 : Nat) (61696 : Int32)) ∈ tc_wA := tc_mem (i := 866) (by decide +kernel) (by decide +kernel)
theorem tw_897 : (Jvm.Cond.constant "TwinConsoleModel" (211 : Nat) (53312 : Int32)) ∈ tc_wA := tc_mem (i := 897) (by decide +kernel) (by decide +kernel)
theorem tw_902 : (Jvm.Cond.constant "TwinConsoleModel" (216 : Nat) (45120 : Int32)) ∈ tc_wA := tc_mem (i := 902) (by decide +kernel) (by decide +kernel)
theorem tw_876 : (Jvm.Cond.constant "TwinConsoleModel" (178 : Nat) (32768 : Int32)) ∈ tc_wA := tc_mem (i := 876) (by decide +kernel) (by decide +kernel)
theorem tw_871 : (Jvm.Cond.constant "TwinConsoleModel" (179 : Nat) (-65536 : Int32)) ∈ tc_wA := tc_mem (i := 871) (by decide +kernel) (by decide +kernel)
theorem tw_637 : (Jvm.Cond.fieldLink "TwinConsoleModel" (73 : Nat) "TwinConsoleModel" "padHigh" "I") ∈ tc_wA := tc_mem (i := 637) (by decide +kernel) (by decide +kernel)
theorem tw_639 : (Jvm.Cond.fieldLink "TwinConsoleModel" (104 : Nat) "TwinConsoleModel" "a" "I") ∈ tc_wA := tc_mem (i := 639) (by decide +kernel) (by decide +kernel)
theorem tw_640 : (Jvm.Cond.fieldLink "TwinConsoleModel" (107 : Nat) "TwinConsoleModel" "b" "I") ∈ tc_wA := tc_mem (i := 640) (by decide +kernel) (by decide +kernel)
theorem tw_641 : (Jvm.Cond.fieldLink "TwinConsoleModel" (110 : Nat) "TwinConsoleModel" "h" "I") ∈ tc_wA := tc_mem (i := 641) (by decide +kernel) (by decide +kernel)
theorem tw_642 : (Jvm.Cond.fieldLink "TwinConsoleModel" (113 : Nat) "TwinConsoleModel" "counter2" "I") ∈ tc_wA := tc_mem (i := 642) (by decide +kernel) (by decide +kernel)
theorem tw_643 : (Jvm.Cond.fieldLink "TwinConsoleModel" (116 : Nat) "TwinConsoleModel" "zero" "Z") ∈ tc_wA := tc_mem (i := 643) (by decide +kernel) (by decide +kernel)
theorem tw_644 : (Jvm.Cond.fieldLink "TwinConsoleModel" (119 : Nat) "TwinConsoleModel" "halted" "Z") ∈ tc_wA := tc_mem (i := 644) (by decide +kernel) (by decide +kernel)
theorem tw_645 : (Jvm.Cond.fieldLink "TwinConsoleModel" (122 : Nat) "TwinConsoleModel" "lets" "Z") ∈ tc_wA := tc_mem (i := 645) (by decide +kernel) (by decide +kernel)
theorem tw_648 : (Jvm.Cond.fieldLink "TwinConsoleModel" (125 : Nat) "TwinConsoleModel" "left" "I") ∈ tc_wA := tc_mem (i := 648) (by decide +kernel) (by decide +kernel)
theorem tw_656 : (Jvm.Cond.fieldLink "TwinConsoleModel" (67 : Nat) "TwinConsoleModel" "waitsWord" "Z") ∈ tc_wA := tc_mem (i := 656) (by decide +kernel) (by decide +kernel)
theorem tw_654 : (Jvm.Cond.fieldLink "TwinConsoleModel" (128 : Nat) "TwinConsoleModel" "address" "I") ∈ tc_wA := tc_mem (i := 654) (by decide +kernel) (by decide +kernel)
theorem tw_848 : (Jvm.Cond.constant "TwinConsoleModel" (162 : Nat) (49152 : Int32)) ∈ tc_wA := tc_mem (i := 848) (by decide +kernel) (by decide +kernel)
theorem tw_655 : (Jvm.Cond.fieldLink "TwinConsoleModel" (132 : Nat) "TwinConsoleModel" "code" "I") ∈ tc_wA := tc_mem (i := 655) (by decide +kernel) (by decide +kernel)
theorem tw_653 : (Jvm.Cond.fieldLink "TwinConsoleModel" (35 : Nat) "TwinConsoleModel" "regs" "[I") ∈ tc_wA := tc_mem (i := 653) (by decide +kernel) (by decide +kernel)
theorem tw_650 : (Jvm.Cond.fieldLink "TwinConsoleModel" (26 : Nat) "TwinConsoleModel" "vram" "[I") ∈ tc_wA := tc_mem (i := 650) (by decide +kernel) (by decide +kernel)
theorem tw_657 : (Jvm.Cond.fieldLink "TwinConsoleModel" (144 : Nat) "TwinConsoleModel" "waitsFill" "Z") ∈ tc_wA := tc_mem (i := 657) (by decide +kernel) (by decide +kernel)
theorem tw_659 : (Jvm.Cond.fieldLink "TwinConsoleModel" (156 : Nat) "TwinConsoleModel" "source" "I") ∈ tc_wA := tc_mem (i := 659) (by decide +kernel) (by decide +kernel)
theorem tw_652 : (Jvm.Cond.fieldLink "TwinConsoleModel" (32 : Nat) "TwinConsoleModel" "vsram" "[I") ∈ tc_wA := tc_mem (i := 652) (by decide +kernel) (by decide +kernel)
theorem tw_651 : (Jvm.Cond.fieldLink "TwinConsoleModel" (29 : Nat) "TwinConsoleModel" "cram" "[I") ∈ tc_wA := tc_mem (i := 651) (by decide +kernel) (by decide +kernel)
theorem tw_662 : (Jvm.Cond.fieldLink "TwinConsoleModel" (55 : Nat) "TwinConsoleModel" "line" "I") ∈ tc_wA := tc_mem (i := 662) (by decide +kernel) (by decide +kernel)
theorem tw_660 : (Jvm.Cond.fieldLink "TwinConsoleModel" (61 : Nat) "TwinConsoleModel" "collided" "Z") ∈ tc_wA := tc_mem (i := 660) (by decide +kernel) (by decide +kernel)
theorem tw_661 : (Jvm.Cond.fieldLink "TwinConsoleModel" (64 : Nat) "TwinConsoleModel" "many" "Z") ∈ tc_wA := tc_mem (i := 661) (by decide +kernel) (by decide +kernel)
theorem tw_663 : (Jvm.Cond.fieldLink "TwinConsoleModel" (87 : Nat) "TwinConsoleModel" "cycle" "I") ∈ tc_wA := tc_mem (i := 663) (by decide +kernel) (by decide +kernel)
theorem tw_649 : (Jvm.Cond.fieldLink "TwinConsoleModel" (253 : Nat) "TwinConsoleModel" "cost" "I") ∈ tc_wA := tc_mem (i := 649) (by decide +kernel) (by decide +kernel)
theorem tw_664 : (Jvm.Cond.fieldLink "TwinConsoleModel" (277 : Nat) "TwinConsoleModel" "counter" "I") ∈ tc_wA := tc_mem (i := 664) (by decide +kernel) (by decide +kernel)
theorem tw_665 : (Jvm.Cond.fieldLink "TwinConsoleModel" (38 : Nat) "TwinConsoleModel" "pixels" "[I") ∈ tc_wA := tc_mem (i := 665) (by decide +kernel) (by decide +kernel)
theorem tw_666 : (Jvm.Cond.fieldLink "TwinConsoleModel" (290 : Nat) "TwinConsoleModel" "taken" "I") ∈ tc_wA := tc_mem (i := 666) (by decide +kernel) (by decide +kernel)
theorem tw_667 : (Jvm.Cond.fieldLink "TwinConsoleModel" (41 : Nat) "TwinConsoleModel" "sprite" "[I") ∈ tc_wA := tc_mem (i := 667) (by decide +kernel) (by decide +kernel)
theorem tw_301 : (Jvm.Cond.methodLink "TwinConsole$MainProcessor" (17 : Nat) ({ cls := "TwinConsole$MainProcessor", name := "setMaskAndFlags", desc := "(I)V" } : Jvm.MethodName)) ∈ tc_wA := tc_mem (i := 301) (by decide +kernel) (by decide +kernel)
theorem tw_7 : (Jvm.Cond.initialized "TwinConsole$MainProcessor") ∈ tc_wA := tc_mem (i := 7) (by decide +kernel) (by decide +kernel)
theorem tw_303 : (Jvm.Cond.instanceMethod ({ cls := "TwinConsole$MainProcessor", name := "setMaskAndFlags", desc := "(I)V" } : Jvm.MethodName)) ∈ tc_wA := tc_mem (i := 303) (by decide +kernel) (by decide +kernel)
theorem tw_304 : (Jvm.Cond.code ({ cls := "TwinConsole$MainProcessor", name := "setMaskAndFlags", desc := "(I)V" } : Jvm.MethodName) prog_4_method_6_code (2 : Nat) (Option.none : Option Jvm.ClassFile.FieldType)) ∈ tc_wA := tc_mem (i := 304) (by decide +kernel) (by decide +kernel)
theorem tw_309 : (Jvm.Cond.methodLink "TwinConsole$Bus" (32 : Nat) ({ cls := "TwinConsole$SecondProcessor", name := "stands", desc := "()Z" } : Jvm.MethodName)) ∈ tc_wA := tc_mem (i := 309) (by decide +kernel) (by decide +kernel)
theorem tw_2 : (Jvm.Cond.initialized "TwinConsole$SecondProcessor") ∈ tc_wA := tc_mem (i := 2) (by decide +kernel) (by decide +kernel)
theorem tw_311 : (Jvm.Cond.selects "TwinConsole$SecondProcessor" ({ cls := "TwinConsole$SecondProcessor", name := "stands", desc := "()Z" } : Jvm.MethodName) ({ cls := "TwinConsole$SecondProcessor", name := "stands", desc := "()Z" } : Jvm.MethodName)) ∈ tc_wA := tc_mem (i := 311) (by decide +kernel) (by decide +kernel)
theorem tw_310 : (Jvm.Cond.instanceMethod ({ cls := "TwinConsole$SecondProcessor", name := "stands", desc := "()Z" } : Jvm.MethodName)) ∈ tc_wA := tc_mem (i := 310) (by decide +kernel) (by decide +kernel)
theorem tw_312 : (Jvm.Cond.code ({ cls := "TwinConsole$SecondProcessor", name := "stands", desc := "()Z" } : Jvm.MethodName) prog_7_method_2_code (1 : Nat) (Option.some Jvm.ClassFile.FieldType.boolean)) ∈ tc_wA := tc_mem (i := 312) (by decide +kernel) (by decide +kernel)
theorem tw_305 : (Jvm.Cond.methodLink "TwinConsole$MainProcessor" (21 : Nat) ({ cls := "TwinConsole$Bus", name := "readQuietly", desc := "(I)I" } : Jvm.MethodName)) ∈ tc_wA := tc_mem (i := 305) (by decide +kernel) (by decide +kernel)
theorem tw_6 : (Jvm.Cond.initialized "TwinConsole$Bus") ∈ tc_wA := tc_mem (i := 6) (by decide +kernel) (by decide +kernel)
theorem tw_307 : (Jvm.Cond.selects "TwinConsole$Bus" ({ cls := "TwinConsole$Bus", name := "readQuietly", desc := "(I)I" } : Jvm.MethodName) ({ cls := "TwinConsole$Bus", name := "readQuietly", desc := "(I)I" } : Jvm.MethodName)) ∈ tc_wA := tc_mem (i := 307) (by decide +kernel) (by decide +kernel)
theorem tw_306 : (Jvm.Cond.instanceMethod ({ cls := "TwinConsole$Bus", name := "readQuietly", desc := "(I)I" } : Jvm.MethodName)) ∈ tc_wA := tc_mem (i := 306) (by decide +kernel) (by decide +kernel)
theorem tw_308 : (Jvm.Cond.code ({ cls := "TwinConsole$Bus", name := "readQuietly", desc := "(I)I" } : Jvm.MethodName) prog_3_method_2_code (2 : Nat) (Option.some Jvm.ClassFile.FieldType.int)) ∈ tc_wA := tc_mem (i := 308) (by decide +kernel) (by decide +kernel)
theorem tw_297 : (Jvm.Cond.methodLink "TwinConsole" (66 : Nat) ({ cls := "TwinConsole$MainProcessor", name := "startAgain", desc := "()V" } : Jvm.MethodName)) ∈ tc_wA := tc_mem (i := 297) (by decide +kernel) (by decide +kernel)
theorem tw_299 : (Jvm.Cond.selects "TwinConsole$MainProcessor" ({ cls := "TwinConsole$MainProcessor", name := "startAgain", desc := "()V" } : Jvm.MethodName) ({ cls := "TwinConsole$MainProcessor", name := "startAgain", desc := "()V" } : Jvm.MethodName)) ∈ tc_wA := tc_mem (i := 299) (by decide +kernel) (by decide +kernel)
theorem tw_298 : (Jvm.Cond.instanceMethod ({ cls := "TwinConsole$MainProcessor", name := "startAgain", desc := "()V" } : Jvm.MethodName)) ∈ tc_wA := tc_mem (i := 298) (by decide +kernel) (by decide +kernel)
theorem tw_300 : (Jvm.Cond.code ({ cls := "TwinConsole$MainProcessor", name := "startAgain", desc := "()V" } : Jvm.MethodName) prog_4_method_2_code (2 : Nat) (Option.none : Option Jvm.ClassFile.FieldType)) ∈ tc_wA := tc_mem (i := 300) (by decide +kernel) (by decide +kernel)
theorem tw_325 : (Jvm.Cond.methodLink "TwinConsole" (157 : Nat) ({ cls := "TwinConsole$Beam", name := "highestPending", desc := "(I)I" } : Jvm.MethodName)) ∈ tc_wA := tc_mem (i := 325) (by decide +kernel) (by decide +kernel)
theorem tw_5 : (Jvm.Cond.initialized "TwinConsole$Beam") ∈ tc_wA := tc_mem (i := 5) (by decide +kernel) (by decide +kernel)
theorem tw_327 : (Jvm.Cond.selects "TwinConsole$Beam" ({ cls := "TwinConsole$Beam", name := "highestPending", desc := "(I)I" } : Jvm.MethodName) ({ cls := "TwinConsole$Beam", name := "highestPending", desc := "(I)I" } : Jvm.MethodName)) ∈ tc_wA := tc_mem (i := 327) (by decide +kernel) (by decide +kernel)
theorem tw_326 : (Jvm.Cond.instanceMethod ({ cls := "TwinConsole$Beam", name := "highestPending", desc := "(I)I" } : Jvm.MethodName)) ∈ tc_wA := tc_mem (i := 326) (by decide +kernel) (by decide +kernel)
theorem tw_328 : (Jvm.Cond.code ({ cls := "TwinConsole$Beam", name := "highestPending", desc := "(I)I" } : Jvm.MethodName) prog_2_method_2_code (2 : Nat) (Option.some Jvm.ClassFile.FieldType.int)) ∈ tc_wA := tc_mem (i := 328) (by decide +kernel) (by decide +kernel)
theorem tw_329 : (Jvm.Cond.methodLink "TwinConsole" (97 : Nat) ({ cls := "TwinConsole$PictureUnit", name := "movesFromMemory", desc := "()Z" } : Jvm.MethodName)) ∈ tc_wA := tc_mem (i := 329) (by decide +kernel) (by decide +kernel)
theorem tw_3 : (Jvm.Cond.initialized "TwinConsole$PictureUnit") ∈ tc_wA := tc_mem (i := 3) (by decide +kernel) (by decide +kernel)
theorem tw_331 : (Jvm.Cond.selects "TwinConsole$PictureUnit" ({ cls := "TwinConsole$PictureUnit", name := "movesFromMemory", desc := "()Z" } : Jvm.MethodName) ({ cls := "TwinConsole$PictureUnit", name := "movesFromMemory", desc := "()Z" } : Jvm.MethodName)) ∈ tc_wA := tc_mem (i := 331) (by decide +kernel) (by decide +kernel)
theorem tw_330 : (Jvm.Cond.instanceMethod ({ cls := "TwinConsole$PictureUnit", name := "movesFromMemory", desc := "()Z" } : Jvm.MethodName)) ∈ tc_wA := tc_mem (i := 330) (by decide +kernel) (by decide +kernel)
theorem tw_332 : (Jvm.Cond.code ({ cls := "TwinConsole$PictureUnit", name := "movesFromMemory", desc := "()Z" } : Jvm.MethodName) prog_6_method_3_code (1 : Nat) (Option.some Jvm.ClassFile.FieldType.boolean)) ∈ tc_wA := tc_mem (i := 332) (by decide +kernel) (by decide +kernel)
theorem tw_414 : (Jvm.Cond.methodLink "TwinConsole" (170 : Nat) ({ cls := "TwinConsole$SecondProcessor", name := "takeMainLate", desc := "()I" } : Jvm.MethodName)) ∈ tc_wA := tc_mem (i := 414) (by decide +kernel) (by decide +kernel)
theorem tw_416 : (Jvm.Cond.selects "TwinConsole$SecondProcessor" ({ cls := "TwinConsole$SecondProcessor", name := "takeMainLate", desc := "()I" } : Jvm.MethodName) ({ cls := "TwinConsole$SecondProcessor", name := "takeMainLate", desc := "()I" } : Jvm.MethodName)) ∈ tc_wA := tc_mem (i := 416) (by decide +kernel) (by decide +kernel)
theorem tw_415 : (Jvm.Cond.instanceMethod ({ cls := "TwinConsole$SecondProcessor", name := "takeMainLate", desc := "()I" } : Jvm.MethodName)) ∈ tc_wA := tc_mem (i := 415) (by decide +kernel) (by decide +kernel)
theorem tw_417 : (Jvm.Cond.code ({ cls := "TwinConsole$SecondProcessor", name := "takeMainLate", desc := "()I" } : Jvm.MethodName) prog_7_method_4_code (2 : Nat) (Option.some Jvm.ClassFile.FieldType.int)) ∈ tc_wA := tc_mem (i := 417) (by decide +kernel) (by decide +kernel)
theorem tw_422 : (Jvm.Cond.methodLink "TwinConsole$MainProcessor" (56 : Nat) ({ cls := "TwinConsole$MainProcessor", name := "nextWord", desc := "()I" } : Jvm.MethodName)) ∈ tc_wA := tc_mem (i := 422) (by decide +kernel) (by decide +kernel)
theorem tw_424 : (Jvm.Cond.instanceMethod ({ cls := "TwinConsole$MainProcessor", name := "nextWord", desc := "()I" } : Jvm.MethodName)) ∈ tc_wA := tc_mem (i := 424) (by decide +kernel) (by decide +kernel)
theorem tw_425 : (Jvm.Cond.code ({ cls := "TwinConsole$MainProcessor", name := "nextWord", desc := "()I" } : Jvm.MethodName) prog_4_method_8_code (2 : Nat) (Option.some Jvm.ClassFile.FieldType.int)) ∈ tc_wA := tc_mem (i := 425) (by decide +kernel) (by decide +kernel)
theorem tw_346 : (Jvm.Cond.methodLink "TwinConsole$PictureUnit" (67 : Nat) ({ cls := "TwinConsole$PictureUnit", name := "growAddress", desc := "()V" } : Jvm.MethodName)) ∈ tc_wA := tc_mem (i := 346) (by decide +kernel) (by decide +kernel)
theorem tw_348 : (Jvm.Cond.instanceMethod ({ cls := "TwinConsole$PictureUnit", name := "growAddress", desc := "()V" } : Jvm.MethodName)) ∈ tc_wA := tc_mem (i := 348) (by decide +kernel) (by decide +kernel)
theorem tw_349 : (Jvm.Cond.code ({ cls := "TwinConsole$PictureUnit", name := "growAddress", desc := "()V" } : Jvm.MethodName) prog_6_method_12_code (1 : Nat) (Option.none : Option Jvm.ClassFile.FieldType)) ∈ tc_wA := tc_mem (i := 349) (by decide +kernel) (by decide +kernel)
theorem tw_342 : (Jvm.Cond.methodLink "TwinConsole$PictureUnit" (56 : Nat) ({ cls := "TwinConsole$PictureUnit", name := "storeWord", desc := "(I)V" } : Jvm.MethodName)) ∈ tc_wA := tc_mem (i := 342) (by decide +kernel) (by decide +kernel)
theorem tw_344 : (Jvm.Cond.instanceMethod ({ cls := "TwinConsole$PictureUnit", name := "storeWord", desc := "(I)V" } : Jvm.MethodName)) ∈ tc_wA := tc_mem (i := 344) (by decide +kernel) (by decide +kernel)
theorem tw_345 : (Jvm.Cond.code ({ cls := "TwinConsole$PictureUnit", name := "storeWord", desc := "(I)V" } : Jvm.MethodName) prog_6_method_13_code (3 : Nat) (Option.none : Option Jvm.ClassFile.FieldType)) ∈ tc_wA := tc_mem (i := 345) (by decide +kernel) (by decide +kernel)
theorem tw_381 : (Jvm.Cond.methodLink "TwinConsole$PictureUnit" (43 : Nat) ({ cls := "TwinConsole$PictureUnit", name := "moveLength", desc := "()I" } : Jvm.MethodName)) ∈ tc_wA := tc_mem (i := 381) (by decide +kernel) (by decide +kernel)
theorem tw_383 : (Jvm.Cond.instanceMethod ({ cls := "TwinConsole$PictureUnit", name := "moveLength", desc := "()I" } : Jvm.MethodName)) ∈ tc_wA := tc_mem (i := 383) (by decide +kernel) (by decide +kernel)
theorem tw_384 : (Jvm.Cond.code ({ cls := "TwinConsole$PictureUnit", name := "moveLength", desc := "()I" } : Jvm.MethodName) prog_6_method_10_code (2 : Nat) (Option.some Jvm.ClassFile.FieldType.int)) ∈ tc_wA := tc_mem (i := 384) (by decide +kernel) (by decide +kernel)
theorem tw_352 : (Jvm.Cond.methodLink "TwinConsole$PictureUnit" (71 : Nat) ({ cls := "TwinConsole$PictureUnit", name := "endMove", desc := "()V" } : Jvm.MethodName)) ∈ tc_wA := tc_mem (i := 352) (by decide +kernel) (by decide +kernel)
theorem tw_354 : (Jvm.Cond.instanceMethod ({ cls := "TwinConsole$PictureUnit", name := "endMove", desc := "()V" } : Jvm.MethodName)) ∈ tc_wA := tc_mem (i := 354) (by decide +kernel) (by decide +kernel)
theorem tw_355 : (Jvm.Cond.code ({ cls := "TwinConsole$PictureUnit", name := "endMove", desc := "()V" } : Jvm.MethodName) prog_6_method_11_code (1 : Nat) (Option.none : Option Jvm.ClassFile.FieldType)) ∈ tc_wA := tc_mem (i := 355) (by decide +kernel) (by decide +kernel)
theorem tw_385 : (Jvm.Cond.methodLink "TwinConsole$PictureUnit" (59 : Nat) ({ cls := "TwinConsole$PictureUnit", name := "fill", desc := "(II)V" } : Jvm.MethodName)) ∈ tc_wA := tc_mem (i := 385) (by decide +kernel) (by decide +kernel)
theorem tw_387 : (Jvm.Cond.instanceMethod ({ cls := "TwinConsole$PictureUnit", name := "fill", desc := "(II)V" } : Jvm.MethodName)) ∈ tc_wA := tc_mem (i := 387) (by decide +kernel) (by decide +kernel)
theorem tw_388 : (Jvm.Cond.code ({ cls := "TwinConsole$PictureUnit", name := "fill", desc := "(II)V" } : Jvm.MethodName) prog_6_method_14_code (4 : Nat) (Option.none : Option Jvm.ClassFile.FieldType)) ∈ tc_wA := tc_mem (i := 388) (by decide +kernel) (by decide +kernel)
theorem tw_377 : (Jvm.Cond.methodLink "TwinConsole$Bus" (68 : Nat) ({ cls := "TwinConsole$PictureUnit", name := "writeData", desc := "(I)V" } : Jvm.MethodName)) ∈ tc_wA := tc_mem (i := 377) (by decide +kernel) (by decide +kernel)
theorem tw_379 : (Jvm.Cond.selects "TwinConsole$PictureUnit" ({ cls := "TwinConsole$PictureUnit", name := "writeData", desc := "(I)V" } : Jvm.MethodName) ({ cls := "TwinConsole$PictureUnit", name := "writeData", desc := "(I)V" } : Jvm.MethodName)) ∈ tc_wA := tc_mem (i := 379) (by decide +kernel) (by decide +kernel)
theorem tw_378 : (Jvm.Cond.instanceMethod ({ cls := "TwinConsole$PictureUnit", name := "writeData", desc := "(I)V" } : Jvm.MethodName)) ∈ tc_wA := tc_mem (i := 378) (by decide +kernel) (by decide +kernel)
theorem tw_380 : (Jvm.Cond.code ({ cls := "TwinConsole$PictureUnit", name := "writeData", desc := "(I)V" } : Jvm.MethodName) prog_6_method_5_code (2 : Nat) (Option.none : Option Jvm.ClassFile.FieldType)) ∈ tc_wA := tc_mem (i := 380) (by decide +kernel) (by decide +kernel)
theorem tw_402 : (Jvm.Cond.methodLink "TwinConsole$PictureUnit" (50 : Nat) ({ cls := "TwinConsole$PictureUnit", name := "halfSource", desc := "()I" } : Jvm.MethodName)) ∈ tc_wA := tc_mem (i := 402) (by decide +kernel) (by decide +kernel)
theorem tw_404 : (Jvm.Cond.instanceMethod ({ cls := "TwinConsole$PictureUnit", name := "halfSource", desc := "()I" } : Jvm.MethodName)) ∈ tc_wA := tc_mem (i := 404) (by decide +kernel) (by decide +kernel)
theorem tw_405 : (Jvm.Cond.code ({ cls := "TwinConsole$PictureUnit", name := "halfSource", desc := "()I" } : Jvm.MethodName) prog_6_method_9_code (1 : Nat) (Option.some Jvm.ClassFile.FieldType.int)) ∈ tc_wA := tc_mem (i := 405) (by decide +kernel) (by decide +kernel)
theorem tw_398 : (Jvm.Cond.methodLink "TwinConsole$PictureUnit" (47 : Nat) ({ cls := "TwinConsole$PictureUnit", name := "copy", desc := "(I)V" } : Jvm.MethodName)) ∈ tc_wA := tc_mem (i := 398) (by decide +kernel) (by decide +kernel)
theorem tw_400 : (Jvm.Cond.instanceMethod ({ cls := "TwinConsole$PictureUnit", name := "copy", desc := "(I)V" } : Jvm.MethodName)) ∈ tc_wA := tc_mem (i := 400) (by decide +kernel) (by decide +kernel)
theorem tw_401 : (Jvm.Cond.code ({ cls := "TwinConsole$PictureUnit", name := "copy", desc := "(I)V" } : Jvm.MethodName) prog_6_method_15_code (4 : Nat) (Option.none : Option Jvm.ClassFile.FieldType)) ∈ tc_wA := tc_mem (i := 401) (by decide +kernel) (by decide +kernel)
theorem tw_393 : (Jvm.Cond.methodLink "TwinConsole$PictureUnit" (30 : Nat) ({ cls := "TwinConsole$PictureUnit", name := "takeFirstWord", desc := "(I)V" } : Jvm.MethodName)) ∈ tc_wA := tc_mem (i := 393) (by decide +kernel) (by decide +kernel)
theorem tw_395 : (Jvm.Cond.instanceMethod ({ cls := "TwinConsole$PictureUnit", name := "takeFirstWord", desc := "(I)V" } : Jvm.MethodName)) ∈ tc_wA := tc_mem (i := 395) (by decide +kernel) (by decide +kernel)
theorem tw_396 : (Jvm.Cond.code ({ cls := "TwinConsole$PictureUnit", name := "takeFirstWord", desc := "(I)V" } : Jvm.MethodName) prog_6_method_8_code (2 : Nat) (Option.none : Option Jvm.ClassFile.FieldType)) ∈ tc_wA := tc_mem (i := 396) (by decide +kernel) (by decide +kernel)
theorem tw_389 : (Jvm.Cond.methodLink "TwinConsole$Bus" (72 : Nat) ({ cls := "TwinConsole$PictureUnit", name := "writeControl", desc := "(I)V" } : Jvm.MethodName)) ∈ tc_wA := tc_mem (i := 389) (by decide +kernel) (by decide +kernel)
theorem tw_391 : (Jvm.Cond.selects "TwinConsole$PictureUnit" ({ cls := "TwinConsole$PictureUnit", name := "writeControl", desc := "(I)V" } : Jvm.MethodName) ({ cls := "TwinConsole$PictureUnit", name := "writeControl", desc := "(I)V" } : Jvm.MethodName)) ∈ tc_wA := tc_mem (i := 391) (by decide +kernel) (by decide +kernel)
theorem tw_390 : (Jvm.Cond.instanceMethod ({ cls := "TwinConsole$PictureUnit", name := "writeControl", desc := "(I)V" } : Jvm.MethodName)) ∈ tc_wA := tc_mem (i := 390) (by decide +kernel) (by decide +kernel)
theorem tw_392 : (Jvm.Cond.code ({ cls := "TwinConsole$PictureUnit", name := "writeControl", desc := "(I)V" } : Jvm.MethodName) prog_6_method_4_code (2 : Nat) (Option.none : Option Jvm.ClassFile.FieldType)) ∈ tc_wA := tc_mem (i := 392) (by decide +kernel) (by decide +kernel)
theorem tw_406 : (Jvm.Cond.methodLink "TwinConsole$Bus" (75 : Nat) ({ cls := "TwinConsole$SecondProcessor", name := "setReset", desc := "(Z)V" } : Jvm.MethodName)) ∈ tc_wA := tc_mem (i := 406) (by decide +kernel) (by decide +kernel)
theorem tw_408 : (Jvm.Cond.selects "TwinConsole$SecondProcessor" ({ cls := "TwinConsole$SecondProcessor", name := "setReset", desc := "(Z)V" } : Jvm.MethodName) ({ cls := "TwinConsole$SecondProcessor", name := "setReset", desc := "(Z)V" } : Jvm.MethodName)) ∈ tc_wA := tc_mem (i := 408) (by decide +kernel) (by decide +kernel)
theorem tw_407 : (Jvm.Cond.instanceMethod ({ cls := "TwinConsole$SecondProcessor", name := "setReset", desc := "(Z)V" } : Jvm.MethodName)) ∈ tc_wA := tc_mem (i := 407) (by decide +kernel) (by decide +kernel)
theorem tw_409 : (Jvm.Cond.code ({ cls := "TwinConsole$SecondProcessor", name := "setReset", desc := "(Z)V" } : Jvm.MethodName) prog_7_method_5_code (2 : Nat) (Option.none : Option Jvm.ClassFile.FieldType)) ∈ tc_wA := tc_mem (i := 409) (by decide +kernel) (by decide +kernel)
theorem tw_410 : (Jvm.Cond.methodLink "TwinConsole$Bus" (82 : Nat) ({ cls := "TwinConsole$Bus", name := "writeMemory", desc := "(II)V" } : Jvm.MethodName)) ∈ tc_wA := tc_mem (i := 410) (by decide +kernel) (by decide +kernel)
theorem tw_412 : (Jvm.Cond.instanceMethod ({ cls := "TwinConsole$Bus", name := "writeMemory", desc := "(II)V" } : Jvm.MethodName)) ∈ tc_wA := tc_mem (i := 412) (by decide +kernel) (by decide +kernel)
theorem tw_413 : (Jvm.Cond.code ({ cls := "TwinConsole$Bus", name := "writeMemory", desc := "(II)V" } : Jvm.MethodName) prog_3_method_6_code (3 : Nat) (Option.none : Option Jvm.ClassFile.FieldType)) ∈ tc_wA := tc_mem (i := 413) (by decide +kernel) (by decide +kernel)
theorem tw_373 : (Jvm.Cond.methodLink "TwinConsole$MainProcessor" (82 : Nat) ({ cls := "TwinConsole$Bus", name := "write", desc := "(II)V" } : Jvm.MethodName)) ∈ tc_wA := tc_mem (i := 373) (by decide +kernel) (by decide +kernel)
theorem tw_375 : (Jvm.Cond.selects "TwinConsole$Bus" ({ cls := "TwinConsole$Bus", name := "write", desc := "(II)V" } : Jvm.MethodName) ({ cls := "TwinConsole$Bus", name := "write", desc := "(II)V" } : Jvm.MethodName)) ∈ tc_wA := tc_mem (i := 375) (by decide +kernel) (by decide +kernel)
theorem tw_374 : (Jvm.Cond.instanceMethod ({ cls := "TwinConsole$Bus", name := "write", desc := "(II)V" } : Jvm.MethodName)) ∈ tc_wA := tc_mem (i := 374) (by decide +kernel) (by decide +kernel)
theorem tw_376 : (Jvm.Cond.code ({ cls := "TwinConsole$Bus", name := "write", desc := "(II)V" } : Jvm.MethodName) prog_3_method_4_code (3 : Nat) (Option.none : Option Jvm.ClassFile.FieldType)) ∈ tc_wA := tc_mem (i := 376) (by decide +kernel) (by decide +kernel)
theorem tw_439 : (Jvm.Cond.methodLink "TwinConsole$MainProcessor" (86 : Nat) ({ cls := "TwinConsole$MainProcessor", name := "setMoveFlags", desc := "(I)V" } : Jvm.MethodName)) ∈ tc_wA := tc_mem (i := 439) (by decide +kernel) (by decide +kernel)
theorem tw_441 : (Jvm.Cond.instanceMethod ({ cls := "TwinConsole$MainProcessor", name := "setMoveFlags", desc := "(I)V" } : Jvm.MethodName)) ∈ tc_wA := tc_mem (i := 441) (by decide +kernel) (by decide +kernel)
theorem tw_442 : (Jvm.Cond.code ({ cls := "TwinConsole$MainProcessor", name := "setMoveFlags", desc := "(I)V" } : Jvm.MethodName) prog_4_method_9_code (2 : Nat) (Option.none : Option Jvm.ClassFile.FieldType)) ∈ tc_wA := tc_mem (i := 442) (by decide +kernel) (by decide +kernel)
theorem tw_451 : (Jvm.Cond.methodLink "TwinConsole$PictureUnit" (63 : Nat) ({ cls := "TwinConsole$PictureUnit", name := "vramWord", desc := "(I)I" } : Jvm.MethodName)) ∈ tc_wA := tc_mem (i := 451) (by decide +kernel) (by decide +kernel)
theorem tw_453 : (Jvm.Cond.selects "TwinConsole$PictureUnit" ({ cls := "TwinConsole$PictureUnit", name := "vramWord", desc := "(I)I" } : Jvm.MethodName) ({ cls := "TwinConsole$PictureUnit", name := "vramWord", desc := "(I)I" } : Jvm.MethodName)) ∈ tc_wA := tc_mem (i := 453) (by decide +kernel) (by decide +kernel)
theorem tw_452 : (Jvm.Cond.instanceMethod ({ cls := "TwinConsole$PictureUnit", name := "vramWord", desc := "(I)I" } : Jvm.MethodName)) ∈ tc_wA := tc_mem (i := 452) (by decide +kernel) (by decide +kernel)
theorem tw_454 : (Jvm.Cond.code ({ cls := "TwinConsole$PictureUnit", name := "vramWord", desc := "(I)I" } : Jvm.MethodName) prog_6_method_2_code (3 : Nat) (Option.some Jvm.ClassFile.FieldType.int)) ∈ tc_wA := tc_mem (i := 454) (by decide +kernel) (by decide +kernel)
theorem tw_447 : (Jvm.Cond.methodLink "TwinConsole$Bus" (39 : Nat) ({ cls := "TwinConsole$PictureUnit", name := "readData", desc := "()I" } : Jvm.MethodName)) ∈ tc_wA := tc_mem (i := 447) (by decide +kernel) (by decide +kernel)
theorem tw_449 : (Jvm.Cond.selects "TwinConsole$PictureUnit" ({ cls := "TwinConsole$PictureUnit", name := "readData", desc := "()I" } : Jvm.MethodName) ({ cls := "TwinConsole$PictureUnit", name := "readData", desc := "()I" } : Jvm.MethodName)) ∈ tc_wA := tc_mem (i := 449) (by decide +kernel) (by decide +kernel)
theorem tw_448 : (Jvm.Cond.instanceMethod ({ cls := "TwinConsole$PictureUnit", name := "readData", desc := "()I" } : Jvm.MethodName)) ∈ tc_wA := tc_mem (i := 448) (by decide +kernel) (by decide +kernel)
theorem tw_450 : (Jvm.Cond.code ({ cls := "TwinConsole$PictureUnit", name := "readData", desc := "()I" } : Jvm.MethodName) prog_6_method_6_code (3 : Nat) (Option.some Jvm.ClassFile.FieldType.int)) ∈ tc_wA := tc_mem (i := 450) (by decide +kernel) (by decide +kernel)
theorem tw_459 : (Jvm.Cond.methodLink "TwinConsole$Bus" (95 : Nat) ({ cls := "TwinConsole$PictureUnit", name := "movesFromMemory", desc := "()Z" } : Jvm.MethodName)) ∈ tc_wA := tc_mem (i := 459) (by decide +kernel) (by decide +kernel)
theorem tw_455 : (Jvm.Cond.methodLink "TwinConsole$Bus" (45 : Nat) ({ cls := "TwinConsole$Bus", name := "readStatus", desc := "()I" } : Jvm.MethodName)) ∈ tc_wA := tc_mem (i := 455) (by decide +kernel) (by decide +kernel)
theorem tw_457 : (Jvm.Cond.instanceMethod ({ cls := "TwinConsole$Bus", name := "readStatus", desc := "()I" } : Jvm.MethodName)) ∈ tc_wA := tc_mem (i := 457) (by decide +kernel) (by decide +kernel)
theorem tw_458 : (Jvm.Cond.code ({ cls := "TwinConsole$Bus", name := "readStatus", desc := "()I" } : Jvm.MethodName) prog_3_method_7_code (2 : Nat) (Option.some Jvm.ClassFile.FieldType.int)) ∈ tc_wA := tc_mem (i := 458) (by decide +kernel) (by decide +kernel)
theorem tw_460 : (Jvm.Cond.methodLink "TwinConsole$Bus" (61 : Nat) ({ cls := "TwinConsole$Bus", name := "readPad", desc := "()I" } : Jvm.MethodName)) ∈ tc_wA := tc_mem (i := 460) (by decide +kernel) (by decide +kernel)
theorem tw_462 : (Jvm.Cond.instanceMethod ({ cls := "TwinConsole$Bus", name := "readPad", desc := "()I" } : Jvm.MethodName)) ∈ tc_wA := tc_mem (i := 462) (by decide +kernel) (by decide +kernel)
theorem tw_463 : (Jvm.Cond.code ({ cls := "TwinConsole$Bus", name := "readPad", desc := "()I" } : Jvm.MethodName) prog_3_method_8_code (1 : Nat) (Option.some Jvm.ClassFile.FieldType.int)) ∈ tc_wA := tc_mem (i := 463) (by decide +kernel) (by decide +kernel)
theorem tw_337 : (Jvm.Cond.methodLink "TwinConsole$Bus" (64 : Nat) ({ cls := "TwinConsole$Bus", name := "readQuietly", desc := "(I)I" } : Jvm.MethodName)) ∈ tc_wA := tc_mem (i := 337) (by decide +kernel) (by decide +kernel)
theorem tw_443 : (Jvm.Cond.methodLink "TwinConsole$MainProcessor" (93 : Nat) ({ cls := "TwinConsole$Bus", name := "read", desc := "(I)I" } : Jvm.MethodName)) ∈ tc_wA := tc_mem (i := 443) (by decide +kernel) (by decide +kernel)
theorem tw_445 : (Jvm.Cond.selects "TwinConsole$Bus" ({ cls := "TwinConsole$Bus", name := "read", desc := "(I)I" } : Jvm.MethodName) ({ cls := "TwinConsole$Bus", name := "read", desc := "(I)I" } : Jvm.MethodName)) ∈ tc_wA := tc_mem (i := 445) (by decide +kernel) (by decide +kernel)
theorem tw_444 : (Jvm.Cond.instanceMethod ({ cls := "TwinConsole$Bus", name := "read", desc := "(I)I" } : Jvm.MethodName)) ∈ tc_wA := tc_mem (i := 444) (by decide +kernel) (by decide +kernel)
theorem tw_446 : (Jvm.Cond.code ({ cls := "TwinConsole$Bus", name := "read", desc := "(I)I" } : Jvm.MethodName) prog_3_method_3_code (2 : Nat) (Option.some Jvm.ClassFile.FieldType.int)) ∈ tc_wA := tc_mem (i := 446) (by decide +kernel) (by decide +kernel)
theorem tw_434 : (Jvm.Cond.methodLink "TwinConsole$MainProcessor" (97 : Nat) ({ cls := "TwinConsole$MainProcessor", name := "setLowWord", desc := "(II)V" } : Jvm.MethodName)) ∈ tc_wA := tc_mem (i := 434) (by decide +kernel) (by decide +kernel)
theorem tw_436 : (Jvm.Cond.instanceMethod ({ cls := "TwinConsole$MainProcessor", name := "setLowWord", desc := "(II)V" } : Jvm.MethodName)) ∈ tc_wA := tc_mem (i := 436) (by decide +kernel) (by decide +kernel)
theorem tw_437 : (Jvm.Cond.code ({ cls := "TwinConsole$MainProcessor", name := "setLowWord", desc := "(II)V" } : Jvm.MethodName) prog_4_method_11_code (3 : Nat) (Option.none : Option Jvm.ClassFile.FieldType)) ∈ tc_wA := tc_mem (i := 437) (by decide +kernel) (by decide +kernel)
theorem tw_430 : (Jvm.Cond.methodLink "TwinConsole$MainProcessor" (90 : Nat) ({ cls := "TwinConsole$MainProcessor", name := "load", desc := "(II)V" } : Jvm.MethodName)) ∈ tc_wA := tc_mem (i := 430) (by decide +kernel) (by decide +kernel)
theorem tw_432 : (Jvm.Cond.instanceMethod ({ cls := "TwinConsole$MainProcessor", name := "load", desc := "(II)V" } : Jvm.MethodName)) ∈ tc_wA := tc_mem (i := 432) (by decide +kernel) (by decide +kernel)
theorem tw_433 : (Jvm.Cond.code ({ cls := "TwinConsole$MainProcessor", name := "load", desc := "(II)V" } : Jvm.MethodName) prog_4_method_14_code (3 : Nat) (Option.none : Option Jvm.ClassFile.FieldType)) ∈ tc_wA := tc_mem (i := 433) (by decide +kernel) (by decide +kernel)
theorem tw_426 : (Jvm.Cond.methodLink "TwinConsole$MainProcessor" (60 : Nat) ({ cls := "TwinConsole$MainProcessor", name := "moveWord", desc := "(I)I" } : Jvm.MethodName)) ∈ tc_wA := tc_mem (i := 426) (by decide +kernel) (by decide +kernel)
theorem tw_428 : (Jvm.Cond.instanceMethod ({ cls := "TwinConsole$MainProcessor", name := "moveWord", desc := "(I)I" } : Jvm.MethodName)) ∈ tc_wA := tc_mem (i := 428) (by decide +kernel) (by decide +kernel)
theorem tw_429 : (Jvm.Cond.code ({ cls := "TwinConsole$MainProcessor", name := "moveWord", desc := "(I)I" } : Jvm.MethodName) prog_4_method_13_code (5 : Nat) (Option.some Jvm.ClassFile.FieldType.int)) ∈ tc_wA := tc_mem (i := 429) (by decide +kernel) (by decide +kernel)
theorem tw_369 : (Jvm.Cond.methodLink "TwinConsole$MainProcessor" (79 : Nat) ({ cls := "TwinConsole$MainProcessor", name := "maskAndFlags", desc := "()I" } : Jvm.MethodName)) ∈ tc_wA := tc_mem (i := 369) (by decide +kernel) (by decide +kernel)
theorem tw_371 : (Jvm.Cond.selects "TwinConsole$MainProcessor" ({ cls := "TwinConsole$MainProcessor", name := "maskAndFlags", desc := "()I" } : Jvm.MethodName) ({ cls := "TwinConsole$MainProcessor", name := "maskAndFlags", desc := "()I" } : Jvm.MethodName)) ∈ tc_wA := tc_mem (i := 371) (by decide +kernel) (by decide +kernel)
theorem tw_370 : (Jvm.Cond.instanceMethod ({ cls := "TwinConsole$MainProcessor", name := "maskAndFlags", desc := "()I" } : Jvm.MethodName)) ∈ tc_wA := tc_mem (i := 370) (by decide +kernel) (by decide +kernel)
theorem tw_372 : (Jvm.Cond.code ({ cls := "TwinConsole$MainProcessor", name := "maskAndFlags", desc := "()I" } : Jvm.MethodName) prog_4_method_3_code (1 : Nat) (Option.some Jvm.ClassFile.FieldType.int)) ∈ tc_wA := tc_mem (i := 372) (by decide +kernel) (by decide +kernel)
theorem tw_364 : (Jvm.Cond.methodLink "TwinConsole$MainProcessor" (53 : Nat) ({ cls := "TwinConsole$MainProcessor", name := "raise", desc := "(I)V" } : Jvm.MethodName)) ∈ tc_wA := tc_mem (i := 364) (by decide +kernel) (by decide +kernel)
theorem tw_366 : (Jvm.Cond.instanceMethod ({ cls := "TwinConsole$MainProcessor", name := "raise", desc := "(I)V" } : Jvm.MethodName)) ∈ tc_wA := tc_mem (i := 366) (by decide +kernel) (by decide +kernel)
theorem tw_367 : (Jvm.Cond.code ({ cls := "TwinConsole$MainProcessor", name := "raise", desc := "(I)V" } : Jvm.MethodName) prog_4_method_7_code (2 : Nat) (Option.none : Option Jvm.ClassFile.FieldType)) ∈ tc_wA := tc_mem (i := 367) (by decide +kernel) (by decide +kernel)
theorem tw_465 : (Jvm.Cond.methodLink "TwinConsole$MainProcessor" (63 : Nat) ({ cls := "TwinConsole$MainProcessor", name := "controlMachine", desc := "(I)I" } : Jvm.MethodName)) ∈ tc_wA := tc_mem (i := 465) (by decide +kernel) (by decide +kernel)
theorem tw_467 : (Jvm.Cond.instanceMethod ({ cls := "TwinConsole$MainProcessor", name := "controlMachine", desc := "(I)I" } : Jvm.MethodName)) ∈ tc_wA := tc_mem (i := 467) (by decide +kernel) (by decide +kernel)
theorem tw_468 : (Jvm.Cond.code ({ cls := "TwinConsole$MainProcessor", name := "controlMachine", desc := "(I)I" } : Jvm.MethodName) prog_4_method_19_code (2 : Nat) (Option.some Jvm.ClassFile.FieldType.int)) ∈ tc_wA := tc_mem (i := 468) (by decide +kernel) (by decide +kernel)
theorem tw_473 : (Jvm.Cond.methodLink "TwinConsole$MainProcessor" (104 : Nat) ({ cls := "TwinConsole$MainProcessor", name := "conditionHolds", desc := "(I)Z" } : Jvm.MethodName)) ∈ tc_wA := tc_mem (i := 473) (by decide +kernel) (by decide +kernel)
theorem tw_475 : (Jvm.Cond.instanceMethod ({ cls := "TwinConsole$MainProcessor", name := "conditionHolds", desc := "(I)Z" } : Jvm.MethodName)) ∈ tc_wA := tc_mem (i := 475) (by decide +kernel) (by decide +kernel)
theorem tw_476 : (Jvm.Cond.code ({ cls := "TwinConsole$MainProcessor", name := "conditionHolds", desc := "(I)Z" } : Jvm.MethodName) prog_4_method_18_code (2 : Nat) (Option.some Jvm.ClassFile.FieldType.boolean)) ∈ tc_wA := tc_mem (i := 476) (by decide +kernel) (by decide +kernel)
theorem tw_469 : (Jvm.Cond.methodLink "TwinConsole$MainProcessor" (66 : Nat) ({ cls := "TwinConsole$MainProcessor", name := "branch", desc := "(I)I" } : Jvm.MethodName)) ∈ tc_wA := tc_mem (i := 469) (by decide +kernel) (by decide +kernel)
theorem tw_471 : (Jvm.Cond.instanceMethod ({ cls := "TwinConsole$MainProcessor", name := "branch", desc := "(I)I" } : Jvm.MethodName)) ∈ tc_wA := tc_mem (i := 471) (by decide +kernel) (by decide +kernel)
theorem tw_472 : (Jvm.Cond.code ({ cls := "TwinConsole$MainProcessor", name := "branch", desc := "(I)I" } : Jvm.MethodName) prog_4_method_17_code (3 : Nat) (Option.some Jvm.ClassFile.FieldType.int)) ∈ tc_wA := tc_mem (i := 472) (by decide +kernel) (by decide +kernel)
theorem tw_477 : (Jvm.Cond.methodLink "TwinConsole$MainProcessor" (69 : Nat) ({ cls := "TwinConsole$MainProcessor", name := "moveQuick", desc := "(I)I" } : Jvm.MethodName)) ∈ tc_wA := tc_mem (i := 477) (by decide +kernel) (by decide +kernel)
theorem tw_479 : (Jvm.Cond.instanceMethod ({ cls := "TwinConsole$MainProcessor", name := "moveQuick", desc := "(I)I" } : Jvm.MethodName)) ∈ tc_wA := tc_mem (i := 479) (by decide +kernel) (by decide +kernel)
theorem tw_480 : (Jvm.Cond.code ({ cls := "TwinConsole$MainProcessor", name := "moveQuick", desc := "(I)I" } : Jvm.MethodName) prog_4_method_12_code (3 : Nat) (Option.some Jvm.ClassFile.FieldType.int)) ∈ tc_wA := tc_mem (i := 480) (by decide +kernel) (by decide +kernel)
theorem tw_485 : (Jvm.Cond.methodLink "TwinConsole$MainProcessor" (100 : Nat) ({ cls := "TwinConsole$MainProcessor", name := "setReckonedFlags", desc := "(IZ)V" } : Jvm.MethodName)) ∈ tc_wA := tc_mem (i := 485) (by decide +kernel) (by decide +kernel)
theorem tw_487 : (Jvm.Cond.instanceMethod ({ cls := "TwinConsole$MainProcessor", name := "setReckonedFlags", desc := "(IZ)V" } : Jvm.MethodName)) ∈ tc_wA := tc_mem (i := 487) (by decide +kernel) (by decide +kernel)
theorem tw_488 : (Jvm.Cond.code ({ cls := "TwinConsole$MainProcessor", name := "setReckonedFlags", desc := "(IZ)V" } : Jvm.MethodName) prog_4_method_10_code (3 : Nat) (Option.none : Option Jvm.ClassFile.FieldType)) ∈ tc_wA := tc_mem (i := 488) (by decide +kernel) (by decide +kernel)
theorem tw_481 : (Jvm.Cond.methodLink "TwinConsole$MainProcessor" (72 : Nat) ({ cls := "TwinConsole$MainProcessor", name := "compare", desc := "(I)I" } : Jvm.MethodName)) ∈ tc_wA := tc_mem (i := 481) (by decide +kernel) (by decide +kernel)
theorem tw_483 : (Jvm.Cond.instanceMethod ({ cls := "TwinConsole$MainProcessor", name := "compare", desc := "(I)I" } : Jvm.MethodName)) ∈ tc_wA := tc_mem (i := 483) (by decide +kernel) (by decide +kernel)
theorem tw_484 : (Jvm.Cond.code ({ cls := "TwinConsole$MainProcessor", name := "compare", desc := "(I)I" } : Jvm.MethodName) prog_4_method_16_code (4 : Nat) (Option.some Jvm.ClassFile.FieldType.int)) ∈ tc_wA := tc_mem (i := 484) (by decide +kernel) (by decide +kernel)
theorem tw_489 : (Jvm.Cond.methodLink "TwinConsole$MainProcessor" (75 : Nat) ({ cls := "TwinConsole$MainProcessor", name := "add", desc := "(I)I" } : Jvm.MethodName)) ∈ tc_wA := tc_mem (i := 489) (by decide +kernel) (by decide +kernel)
theorem tw_491 : (Jvm.Cond.instanceMethod ({ cls := "TwinConsole$MainProcessor", name := "add", desc := "(I)I" } : Jvm.MethodName)) ∈ tc_wA := tc_mem (i := 491) (by decide +kernel) (by decide +kernel)
theorem tw_492 : (Jvm.Cond.code ({ cls := "TwinConsole$MainProcessor", name := "add", desc := "(I)I" } : Jvm.MethodName) prog_4_method_15_code (6 : Nat) (Option.some Jvm.ClassFile.FieldType.int)) ∈ tc_wA := tc_mem (i := 492) (by decide +kernel) (by decide +kernel)
theorem tw_418 : (Jvm.Cond.methodLink "TwinConsole" (173 : Nat) ({ cls := "TwinConsole$MainProcessor", name := "instruct", desc := "()I" } : Jvm.MethodName)) ∈ tc_wA := tc_mem (i := 418) (by decide +kernel) (by decide +kernel)
theorem tw_420 : (Jvm.Cond.selects "TwinConsole$MainProcessor" ({ cls := "TwinConsole$MainProcessor", name := "instruct", desc := "()I" } : Jvm.MethodName) ({ cls := "TwinConsole$MainProcessor", name := "instruct", desc := "()I" } : Jvm.MethodName)) ∈ tc_wA := tc_mem (i := 420) (by decide +kernel) (by decide +kernel)
theorem tw_419 : (Jvm.Cond.instanceMethod ({ cls := "TwinConsole$MainProcessor", name := "instruct", desc := "()I" } : Jvm.MethodName)) ∈ tc_wA := tc_mem (i := 419) (by decide +kernel) (by decide +kernel)
theorem tw_421 : (Jvm.Cond.code ({ cls := "TwinConsole$MainProcessor", name := "instruct", desc := "()I" } : Jvm.MethodName) prog_4_method_5_code (4 : Nat) (Option.some Jvm.ClassFile.FieldType.int)) ∈ tc_wA := tc_mem (i := 421) (by decide +kernel) (by decide +kernel)
theorem tw_497 : (Jvm.Cond.methodLink "TwinConsole$SecondProcessor" (51 : Nat) ({ cls := "TwinConsole$SecondProcessor", name := "stands", desc := "()Z" } : Jvm.MethodName)) ∈ tc_wA := tc_mem (i := 497) (by decide +kernel) (by decide +kernel)
theorem tw_506 : (Jvm.Cond.methodLink "TwinConsole$SecondProcessor" (69 : Nat) ({ cls := "TwinConsole$SecondProcessor", name := "readByte", desc := "(I)I" } : Jvm.MethodName)) ∈ tc_wA := tc_mem (i := 506) (by decide +kernel) (by decide +kernel)
theorem tw_508 : (Jvm.Cond.instanceMethod ({ cls := "TwinConsole$SecondProcessor", name := "readByte", desc := "(I)I" } : Jvm.MethodName)) ∈ tc_wA := tc_mem (i := 508) (by decide +kernel) (by decide +kernel)
theorem tw_509 : (Jvm.Cond.code ({ cls := "TwinConsole$SecondProcessor", name := "readByte", desc := "(I)I" } : Jvm.MethodName) prog_7_method_13_code (3 : Nat) (Option.some Jvm.ClassFile.FieldType.int)) ∈ tc_wA := tc_mem (i := 509) (by decide +kernel) (by decide +kernel)
theorem tw_502 : (Jvm.Cond.methodLink "TwinConsole$SecondProcessor" (59 : Nat) ({ cls := "TwinConsole$SecondProcessor", name := "nextByte", desc := "()I" } : Jvm.MethodName)) ∈ tc_wA := tc_mem (i := 502) (by decide +kernel) (by decide +kernel)
theorem tw_504 : (Jvm.Cond.instanceMethod ({ cls := "TwinConsole$SecondProcessor", name := "nextByte", desc := "()I" } : Jvm.MethodName)) ∈ tc_wA := tc_mem (i := 504) (by decide +kernel) (by decide +kernel)
theorem tw_505 : (Jvm.Cond.code ({ cls := "TwinConsole$SecondProcessor", name := "nextByte", desc := "()I" } : Jvm.MethodName) prog_7_method_11_code (2 : Nat) (Option.some Jvm.ClassFile.FieldType.int)) ∈ tc_wA := tc_mem (i := 505) (by decide +kernel) (by decide +kernel)
theorem tw_520 : (Jvm.Cond.methodLink "TwinConsole$SecondProcessor" (73 : Nat) ({ cls := "TwinConsole$SecondProcessor", name := "branch", desc := "(I)I" } : Jvm.MethodName)) ∈ tc_wA := tc_mem (i := 520) (by decide +kernel) (by decide +kernel)
theorem tw_522 : (Jvm.Cond.instanceMethod ({ cls := "TwinConsole$SecondProcessor", name := "branch", desc := "(I)I" } : Jvm.MethodName)) ∈ tc_wA := tc_mem (i := 522) (by decide +kernel) (by decide +kernel)
theorem tw_523 : (Jvm.Cond.code ({ cls := "TwinConsole$SecondProcessor", name := "branch", desc := "(I)I" } : Jvm.MethodName) prog_7_method_10_code (2 : Nat) (Option.some Jvm.ClassFile.FieldType.int)) ∈ tc_wA := tc_mem (i := 523) (by decide +kernel) (by decide +kernel)
theorem tw_512 : (Jvm.Cond.methodLink "TwinConsole$SecondProcessor" (62 : Nat) ({ cls := "TwinConsole$SecondProcessor", name := "nextAddress", desc := "()I" } : Jvm.MethodName)) ∈ tc_wA := tc_mem (i := 512) (by decide +kernel) (by decide +kernel)
theorem tw_514 : (Jvm.Cond.instanceMethod ({ cls := "TwinConsole$SecondProcessor", name := "nextAddress", desc := "()I" } : Jvm.MethodName)) ∈ tc_wA := tc_mem (i := 514) (by decide +kernel) (by decide +kernel)
theorem tw_515 : (Jvm.Cond.code ({ cls := "TwinConsole$SecondProcessor", name := "nextAddress", desc := "()I" } : Jvm.MethodName) prog_7_method_12_code (2 : Nat) (Option.some Jvm.ClassFile.FieldType.int)) ∈ tc_wA := tc_mem (i := 515) (by decide +kernel) (by decide +kernel)
theorem tw_516 : (Jvm.Cond.methodLink "TwinConsole$SecondProcessor" (65 : Nat) ({ cls := "TwinConsole$SecondProcessor", name := "writeByte", desc := "(I)V" } : Jvm.MethodName)) ∈ tc_wA := tc_mem (i := 516) (by decide +kernel) (by decide +kernel)
theorem tw_518 : (Jvm.Cond.instanceMethod ({ cls := "TwinConsole$SecondProcessor", name := "writeByte", desc := "(I)V" } : Jvm.MethodName)) ∈ tc_wA := tc_mem (i := 518) (by decide +kernel) (by decide +kernel)
theorem tw_519 : (Jvm.Cond.code ({ cls := "TwinConsole$SecondProcessor", name := "writeByte", desc := "(I)V" } : Jvm.MethodName) prog_7_method_14_code (2 : Nat) (Option.none : Option Jvm.ClassFile.FieldType)) ∈ tc_wA := tc_mem (i := 519) (by decide +kernel) (by decide +kernel)
theorem tw_524 : (Jvm.Cond.methodLink "TwinConsole$SecondProcessor" (76 : Nat) ({ cls := "TwinConsole$SecondProcessor", name := "count", desc := "(I)I" } : Jvm.MethodName)) ∈ tc_wA := tc_mem (i := 524) (by decide +kernel) (by decide +kernel)
theorem tw_526 : (Jvm.Cond.instanceMethod ({ cls := "TwinConsole$SecondProcessor", name := "count", desc := "(I)I" } : Jvm.MethodName)) ∈ tc_wA := tc_mem (i := 526) (by decide +kernel) (by decide +kernel)
theorem tw_527 : (Jvm.Cond.code ({ cls := "TwinConsole$SecondProcessor", name := "count", desc := "(I)I" } : Jvm.MethodName) prog_7_method_9_code (2 : Nat) (Option.some Jvm.ClassFile.FieldType.int)) ∈ tc_wA := tc_mem (i := 527) (by decide +kernel) (by decide +kernel)
theorem tw_498 : (Jvm.Cond.methodLink "TwinConsole$SecondProcessor" (55 : Nat) ({ cls := "TwinConsole$SecondProcessor", name := "instruct", desc := "()I" } : Jvm.MethodName)) ∈ tc_wA := tc_mem (i := 498) (by decide +kernel) (by decide +kernel)
theorem tw_500 : (Jvm.Cond.instanceMethod ({ cls := "TwinConsole$SecondProcessor", name := "instruct", desc := "()I" } : Jvm.MethodName)) ∈ tc_wA := tc_mem (i := 500) (by decide +kernel) (by decide +kernel)
theorem tw_501 : (Jvm.Cond.code ({ cls := "TwinConsole$SecondProcessor", name := "instruct", desc := "()I" } : Jvm.MethodName) prog_7_method_8_code (1 : Nat) (Option.some Jvm.ClassFile.FieldType.int)) ∈ tc_wA := tc_mem (i := 501) (by decide +kernel) (by decide +kernel)
theorem tw_493 : (Jvm.Cond.methodLink "TwinConsole" (176 : Nat) ({ cls := "TwinConsole$SecondProcessor", name := "give", desc := "(I)V" } : Jvm.MethodName)) ∈ tc_wA := tc_mem (i := 493) (by decide +kernel) (by decide +kernel)
theorem tw_495 : (Jvm.Cond.selects "TwinConsole$SecondProcessor" ({ cls := "TwinConsole$SecondProcessor", name := "give", desc := "(I)V" } : Jvm.MethodName) ({ cls := "TwinConsole$SecondProcessor", name := "give", desc := "(I)V" } : Jvm.MethodName)) ∈ tc_wA := tc_mem (i := 495) (by decide +kernel) (by decide +kernel)
theorem tw_494 : (Jvm.Cond.instanceMethod ({ cls := "TwinConsole$SecondProcessor", name := "give", desc := "(I)V" } : Jvm.MethodName)) ∈ tc_wA := tc_mem (i := 494) (by decide +kernel) (by decide +kernel)
theorem tw_496 : (Jvm.Cond.code ({ cls := "TwinConsole$SecondProcessor", name := "give", desc := "(I)V" } : Jvm.MethodName) prog_7_method_7_code (4 : Nat) (Option.none : Option Jvm.ClassFile.FieldType)) ∈ tc_wA := tc_mem (i := 496) (by decide +kernel) (by decide +kernel)
theorem tw_573 : (Jvm.Cond.methodLink "TwinConsole$Beam" (56 : Nat) ({ cls := "TwinConsole$SecondProcessor", name := "tellLine8", desc := "()V" } : Jvm.MethodName)) ∈ tc_wA := tc_mem (i := 573) (by decide +kernel) (by decide +kernel)
theorem tw_575 : (Jvm.Cond.selects "TwinConsole$SecondProcessor" ({ cls := "TwinConsole$SecondProcessor", name := "tellLine8", desc := "()V" } : Jvm.MethodName) ({ cls := "TwinConsole$SecondProcessor", name := "tellLine8", desc := "()V" } : Jvm.MethodName)) ∈ tc_wA := tc_mem (i := 575) (by decide +kernel) (by decide +kernel)
theorem tw_574 : (Jvm.Cond.instanceMethod ({ cls := "TwinConsole$SecondProcessor", name := "tellLine8", desc := "()V" } : Jvm.MethodName)) ∈ tc_wA := tc_mem (i := 574) (by decide +kernel) (by decide +kernel)
theorem tw_576 : (Jvm.Cond.code ({ cls := "TwinConsole$SecondProcessor", name := "tellLine8", desc := "()V" } : Jvm.MethodName) prog_7_method_6_code (1 : Nat) (Option.none : Option Jvm.ClassFile.FieldType)) ∈ tc_wA := tc_mem (i := 576) (by decide +kernel) (by decide +kernel)
theorem tw_569 : (Jvm.Cond.methodLink "TwinConsole$Beam" (44 : Nat) ({ cls := "TwinConsole$Beam", name := "beginHiddenLine", desc := "()V" } : Jvm.MethodName)) ∈ tc_wA := tc_mem (i := 569) (by decide +kernel) (by decide +kernel)
theorem tw_571 : (Jvm.Cond.instanceMethod ({ cls := "TwinConsole$Beam", name := "beginHiddenLine", desc := "()V" } : Jvm.MethodName)) ∈ tc_wA := tc_mem (i := 571) (by decide +kernel) (by decide +kernel)
theorem tw_572 : (Jvm.Cond.code ({ cls := "TwinConsole$Beam", name := "beginHiddenLine", desc := "()V" } : Jvm.MethodName) prog_2_method_5_code (1 : Nat) (Option.none : Option Jvm.ClassFile.FieldType)) ∈ tc_wA := tc_mem (i := 572) (by decide +kernel) (by decide +kernel)
theorem tw_562 : (Jvm.Cond.methodLink "TwinConsole$Painter" (43 : Nat) ({ cls := "TwinConsole$Painter", name := "foremost", desc := "(III)I" } : Jvm.MethodName)) ∈ tc_wA := tc_mem (i := 562) (by decide +kernel) (by decide +kernel)
theorem tw_4 : (Jvm.Cond.initialized "TwinConsole$Painter") ∈ tc_wA := tc_mem (i := 4) (by decide +kernel) (by decide +kernel)
theorem tw_563 : (Jvm.Cond.static ({ cls := "TwinConsole$Painter", name := "foremost", desc := "(III)I" } : Jvm.MethodName)) ∈ tc_wA := tc_mem (i := 563) (by decide +kernel) (by decide +kernel)
theorem tw_564 : (Jvm.Cond.code ({ cls := "TwinConsole$Painter", name := "foremost", desc := "(III)I" } : Jvm.MethodName) prog_5_method_3_code (3 : Nat) (Option.some Jvm.ClassFile.FieldType.int)) ∈ tc_wA := tc_mem (i := 564) (by decide +kernel) (by decide +kernel)
theorem tw_540 : (Jvm.Cond.methodLink "TwinConsole$Painter" (47 : Nat) ({ cls := "TwinConsole$PictureUnit", name := "vramWord", desc := "(I)I" } : Jvm.MethodName)) ∈ tc_wA := tc_mem (i := 540) (by decide +kernel) (by decide +kernel)
theorem tw_541 : (Jvm.Cond.methodLink "TwinConsole$Painter" (54 : Nat) ({ cls := "TwinConsole$Painter", name := "patternDot", desc := "(III)I" } : Jvm.MethodName)) ∈ tc_wA := tc_mem (i := 541) (by decide +kernel) (by decide +kernel)
theorem tw_543 : (Jvm.Cond.instanceMethod ({ cls := "TwinConsole$Painter", name := "patternDot", desc := "(III)I" } : Jvm.MethodName)) ∈ tc_wA := tc_mem (i := 543) (by decide +kernel) (by decide +kernel)
theorem tw_544 : (Jvm.Cond.code ({ cls := "TwinConsole$Painter", name := "patternDot", desc := "(III)I" } : Jvm.MethodName) prog_5_method_5_code (7 : Nat) (Option.some Jvm.ClassFile.FieldType.int)) ∈ tc_wA := tc_mem (i := 544) (by decide +kernel) (by decide +kernel)
theorem tw_536 : (Jvm.Cond.methodLink "TwinConsole$Painter" (35 : Nat) ({ cls := "TwinConsole$Painter", name := "drawPlane", desc := "([III)V" } : Jvm.MethodName)) ∈ tc_wA := tc_mem (i := 536) (by decide +kernel) (by decide +kernel)
theorem tw_538 : (Jvm.Cond.instanceMethod ({ cls := "TwinConsole$Painter", name := "drawPlane", desc := "([III)V" } : Jvm.MethodName)) ∈ tc_wA := tc_mem (i := 538) (by decide +kernel) (by decide +kernel)
theorem tw_539 : (Jvm.Cond.code ({ cls := "TwinConsole$Painter", name := "drawPlane", desc := "([III)V" } : Jvm.MethodName) prog_5_method_4_code (13 : Nat) (Option.none : Option Jvm.ClassFile.FieldType)) ∈ tc_wA := tc_mem (i := 539) (by decide +kernel) (by decide +kernel)
theorem tw_554 : (Jvm.Cond.methodLink "TwinConsole$Painter" (65 : Nat) ({ cls := "TwinConsole$Painter", name := "isOnLine", desc := "(II)Z" } : Jvm.MethodName)) ∈ tc_wA := tc_mem (i := 554) (by decide +kernel) (by decide +kernel)
theorem tw_556 : (Jvm.Cond.instanceMethod ({ cls := "TwinConsole$Painter", name := "isOnLine", desc := "(II)Z" } : Jvm.MethodName)) ∈ tc_wA := tc_mem (i := 556) (by decide +kernel) (by decide +kernel)
theorem tw_557 : (Jvm.Cond.code ({ cls := "TwinConsole$Painter", name := "isOnLine", desc := "(II)Z" } : Jvm.MethodName) prog_5_method_8_code (4 : Nat) (Option.some Jvm.ClassFile.FieldType.boolean)) ∈ tc_wA := tc_mem (i := 557) (by decide +kernel) (by decide +kernel)
theorem tw_550 : (Jvm.Cond.methodLink "TwinConsole$Painter" (58 : Nat) ({ cls := "TwinConsole$Painter", name := "takeSprites", desc := "(I)I" } : Jvm.MethodName)) ∈ tc_wA := tc_mem (i := 550) (by decide +kernel) (by decide +kernel)
theorem tw_552 : (Jvm.Cond.instanceMethod ({ cls := "TwinConsole$Painter", name := "takeSprites", desc := "(I)I" } : Jvm.MethodName)) ∈ tc_wA := tc_mem (i := 552) (by decide +kernel) (by decide +kernel)
theorem tw_553 : (Jvm.Cond.code ({ cls := "TwinConsole$Painter", name := "takeSprites", desc := "(I)I" } : Jvm.MethodName) prog_5_method_7_code (7 : Nat) (Option.some Jvm.ClassFile.FieldType.int)) ∈ tc_wA := tc_mem (i := 553) (by decide +kernel) (by decide +kernel)
theorem tw_558 : (Jvm.Cond.methodLink "TwinConsole$Painter" (61 : Nat) ({ cls := "TwinConsole$Painter", name := "drawSprite", desc := "(II)V" } : Jvm.MethodName)) ∈ tc_wA := tc_mem (i := 558) (by decide +kernel) (by decide +kernel)
theorem tw_560 : (Jvm.Cond.instanceMethod ({ cls := "TwinConsole$Painter", name := "drawSprite", desc := "(II)V" } : Jvm.MethodName)) ∈ tc_wA := tc_mem (i := 560) (by decide +kernel) (by decide +kernel)
theorem tw_561 : (Jvm.Cond.code ({ cls := "TwinConsole$Painter", name := "drawSprite", desc := "(II)V" } : Jvm.MethodName) prog_5_method_9_code (9 : Nat) (Option.none : Option Jvm.ClassFile.FieldType)) ∈ tc_wA := tc_mem (i := 561) (by decide +kernel) (by decide +kernel)
theorem tw_546 : (Jvm.Cond.methodLink "TwinConsole$Painter" (39 : Nat) ({ cls := "TwinConsole$Painter", name := "drawSprites", desc := "(I)V" } : Jvm.MethodName)) ∈ tc_wA := tc_mem (i := 546) (by decide +kernel) (by decide +kernel)
theorem tw_548 : (Jvm.Cond.instanceMethod ({ cls := "TwinConsole$Painter", name := "drawSprites", desc := "(I)V" } : Jvm.MethodName)) ∈ tc_wA := tc_mem (i := 548) (by decide +kernel) (by decide +kernel)
theorem tw_549 : (Jvm.Cond.code ({ cls := "TwinConsole$Painter", name := "drawSprites", desc := "(I)V" } : Jvm.MethodName) prog_5_method_6_code (4 : Nat) (Option.none : Option Jvm.ClassFile.FieldType)) ∈ tc_wA := tc_mem (i := 549) (by decide +kernel) (by decide +kernel)
theorem tw_532 : (Jvm.Cond.methodLink "TwinConsole$Beam" (37 : Nat) ({ cls := "TwinConsole$Painter", name := "draw", desc := "(I)V" } : Jvm.MethodName)) ∈ tc_wA := tc_mem (i := 532) (by decide +kernel) (by decide +kernel)
theorem tw_534 : (Jvm.Cond.selects "TwinConsole$Painter" ({ cls := "TwinConsole$Painter", name := "draw", desc := "(I)V" } : Jvm.MethodName) ({ cls := "TwinConsole$Painter", name := "draw", desc := "(I)V" } : Jvm.MethodName)) ∈ tc_wA := tc_mem (i := 534) (by decide +kernel) (by decide +kernel)
theorem tw_533 : (Jvm.Cond.instanceMethod ({ cls := "TwinConsole$Painter", name := "draw", desc := "(I)V" } : Jvm.MethodName)) ∈ tc_wA := tc_mem (i := 533) (by decide +kernel) (by decide +kernel)
theorem tw_535 : (Jvm.Cond.code ({ cls := "TwinConsole$Painter", name := "draw", desc := "(I)V" } : Jvm.MethodName) prog_5_method_2_code (6 : Nat) (Option.none : Option Jvm.ClassFile.FieldType)) ∈ tc_wA := tc_mem (i := 535) (by decide +kernel) (by decide +kernel)
theorem tw_565 : (Jvm.Cond.methodLink "TwinConsole$Beam" (41 : Nat) ({ cls := "TwinConsole$Beam", name := "countDown", desc := "()V" } : Jvm.MethodName)) ∈ tc_wA := tc_mem (i := 565) (by decide +kernel) (by decide +kernel)
theorem tw_567 : (Jvm.Cond.instanceMethod ({ cls := "TwinConsole$Beam", name := "countDown", desc := "()V" } : Jvm.MethodName)) ∈ tc_wA := tc_mem (i := 567) (by decide +kernel) (by decide +kernel)
theorem tw_568 : (Jvm.Cond.code ({ cls := "TwinConsole$Beam", name := "countDown", desc := "()V" } : Jvm.MethodName) prog_2_method_6_code (1 : Nat) (Option.none : Option Jvm.ClassFile.FieldType)) ∈ tc_wA := tc_mem (i := 568) (by decide +kernel) (by decide +kernel)
theorem tw_528 : (Jvm.Cond.methodLink "TwinConsole" (179 : Nat) ({ cls := "TwinConsole$Beam", name := "goOn", desc := "(I)V" } : Jvm.MethodName)) ∈ tc_wA := tc_mem (i := 528) (by decide +kernel) (by decide +kernel)
theorem tw_530 : (Jvm.Cond.selects "TwinConsole$Beam" ({ cls := "TwinConsole$Beam", name := "goOn", desc := "(I)V" } : Jvm.MethodName) ({ cls := "TwinConsole$Beam", name := "goOn", desc := "(I)V" } : Jvm.MethodName)) ∈ tc_wA := tc_mem (i := 530) (by decide +kernel) (by decide +kernel)
theorem tw_529 : (Jvm.Cond.instanceMethod ({ cls := "TwinConsole$Beam", name := "goOn", desc := "(I)V" } : Jvm.MethodName)) ∈ tc_wA := tc_mem (i := 529) (by decide +kernel) (by decide +kernel)
theorem tw_531 : (Jvm.Cond.code ({ cls := "TwinConsole$Beam", name := "goOn", desc := "(I)V" } : Jvm.MethodName) prog_2_method_4_code (4 : Nat) (Option.none : Option Jvm.ClassFile.FieldType)) ∈ tc_wA := tc_mem (i := 531) (by decide +kernel) (by decide +kernel)
theorem tw_356 : (Jvm.Cond.methodLink "TwinConsole" (163 : Nat) ({ cls := "TwinConsole$Beam", name := "takePending", desc := "(I)V" } : Jvm.MethodName)) ∈ tc_wA := tc_mem (i := 356) (by decide +kernel) (by decide +kernel)
theorem tw_358 : (Jvm.Cond.selects "TwinConsole$Beam" ({ cls := "TwinConsole$Beam", name := "takePending", desc := "(I)V" } : Jvm.MethodName) ({ cls := "TwinConsole$Beam", name := "takePending", desc := "(I)V" } : Jvm.MethodName)) ∈ tc_wA := tc_mem (i := 358) (by decide +kernel) (by decide +kernel)
theorem tw_357 : (Jvm.Cond.instanceMethod ({ cls := "TwinConsole$Beam", name := "takePending", desc := "(I)V" } : Jvm.MethodName)) ∈ tc_wA := tc_mem (i := 357) (by decide +kernel) (by decide +kernel)
theorem tw_359 : (Jvm.Cond.code ({ cls := "TwinConsole$Beam", name := "takePending", desc := "(I)V" } : Jvm.MethodName) prog_2_method_3_code (2 : Nat) (Option.none : Option Jvm.ClassFile.FieldType)) ∈ tc_wA := tc_mem (i := 359) (by decide +kernel) (by decide +kernel)
theorem tw_360 : (Jvm.Cond.methodLink "TwinConsole" (167 : Nat) ({ cls := "TwinConsole$MainProcessor", name := "interrupt", desc := "(I)I" } : Jvm.MethodName)) ∈ tc_wA := tc_mem (i := 360) (by decide +kernel) (by decide +kernel)
theorem tw_362 : (Jvm.Cond.selects "TwinConsole$MainProcessor" ({ cls := "TwinConsole$MainProcessor", name := "interrupt", desc := "(I)I" } : Jvm.MethodName) ({ cls := "TwinConsole$MainProcessor", name := "interrupt", desc := "(I)I" } : Jvm.MethodName)) ∈ tc_wA := tc_mem (i := 362) (by decide +kernel) (by decide +kernel)
theorem tw_361 : (Jvm.Cond.instanceMethod ({ cls := "TwinConsole$MainProcessor", name := "interrupt", desc := "(I)I" } : Jvm.MethodName)) ∈ tc_wA := tc_mem (i := 361) (by decide +kernel) (by decide +kernel)
theorem tw_363 : (Jvm.Cond.code ({ cls := "TwinConsole$MainProcessor", name := "interrupt", desc := "(I)I" } : Jvm.MethodName) prog_4_method_4_code (2 : Nat) (Option.some Jvm.ClassFile.FieldType.int)) ∈ tc_wA := tc_mem (i := 363) (by decide +kernel) (by decide +kernel)
theorem tw_338 : (Jvm.Cond.methodLink "TwinConsole$Bus" (89 : Nat) ({ cls := "TwinConsole$PictureUnit", name := "takeMovedWord", desc := "(I)V" } : Jvm.MethodName)) ∈ tc_wA := tc_mem (i := 338) (by decide +kernel) (by decide +kernel)
theorem tw_340 : (Jvm.Cond.selects "TwinConsole$PictureUnit" ({ cls := "TwinConsole$PictureUnit", name := "takeMovedWord", desc := "(I)V" } : Jvm.MethodName) ({ cls := "TwinConsole$PictureUnit", name := "takeMovedWord", desc := "(I)V" } : Jvm.MethodName)) ∈ tc_wA := tc_mem (i := 340) (by decide +kernel) (by decide +kernel)
theorem tw_339 : (Jvm.Cond.instanceMethod ({ cls := "TwinConsole$PictureUnit", name := "takeMovedWord", desc := "(I)V" } : Jvm.MethodName)) ∈ tc_wA := tc_mem (i := 339) (by decide +kernel) (by decide +kernel)
theorem tw_341 : (Jvm.Cond.code ({ cls := "TwinConsole$PictureUnit", name := "takeMovedWord", desc := "(I)V" } : Jvm.MethodName) prog_6_method_7_code (2 : Nat) (Option.none : Option Jvm.ClassFile.FieldType)) ∈ tc_wA := tc_mem (i := 341) (by decide +kernel) (by decide +kernel)
theorem tw_333 : (Jvm.Cond.methodLink "TwinConsole" (160 : Nat) ({ cls := "TwinConsole$Bus", name := "moveWord", desc := "()V" } : Jvm.MethodName)) ∈ tc_wA := tc_mem (i := 333) (by decide +kernel) (by decide +kernel)
theorem tw_335 : (Jvm.Cond.selects "TwinConsole$Bus" ({ cls := "TwinConsole$Bus", name := "moveWord", desc := "()V" } : Jvm.MethodName) ({ cls := "TwinConsole$Bus", name := "moveWord", desc := "()V" } : Jvm.MethodName)) ∈ tc_wA := tc_mem (i := 335) (by decide +kernel) (by decide +kernel)
theorem tw_334 : (Jvm.Cond.instanceMethod ({ cls := "TwinConsole$Bus", name := "moveWord", desc := "()V" } : Jvm.MethodName)) ∈ tc_wA := tc_mem (i := 334) (by decide +kernel) (by decide +kernel)
theorem tw_336 : (Jvm.Cond.code ({ cls := "TwinConsole$Bus", name := "moveWord", desc := "()V" } : Jvm.MethodName) prog_3_method_5_code (2 : Nat) (Option.none : Option Jvm.ClassFile.FieldType)) ∈ tc_wA := tc_mem (i := 336) (by decide +kernel) (by decide +kernel)
theorem tw_321 : (Jvm.Cond.methodLink "TwinConsole" (73 : Nat) ({ cls := "TwinConsole", name := "oneStep", desc := "()I" } : Jvm.MethodName)) ∈ tc_wA := tc_mem (i := 321) (by decide +kernel) (by decide +kernel)
theorem tw_1 : (Jvm.Cond.initialized "TwinConsole") ∈ tc_wA := tc_mem (i := 1) (by decide +kernel) (by decide +kernel)
theorem tw_323 : (Jvm.Cond.instanceMethod ({ cls := "TwinConsole", name := "oneStep", desc := "()I" } : Jvm.MethodName)) ∈ tc_wA := tc_mem (i := 323) (by decide +kernel) (by decide +kernel)
theorem tw_324 : (Jvm.Cond.code ({ cls := "TwinConsole", name := "oneStep", desc := "()I" } : Jvm.MethodName) prog_1_method_14_code (4 : Nat) (Option.some Jvm.ClassFile.FieldType.int)) ∈ tc_wA := tc_mem (i := 324) (by decide +kernel) (by decide +kernel)
theorem tw_585 : (Jvm.Cond.methodLink "TwinConsole" (77 : Nat) ({ cls := "TwinConsole$Bus", name := "readQuietly", desc := "(I)I" } : Jvm.MethodName)) ∈ tc_wA := tc_mem (i := 585) (by decide +kernel) (by decide +kernel)
theorem tw_590 : (Jvm.Cond.methodLink "TwinConsole" (90 : Nat) ({ cls := "TwinConsole$MainProcessor", name := "maskAndFlags", desc := "()I" } : Jvm.MethodName)) ∈ tc_wA := tc_mem (i := 590) (by decide +kernel) (by decide +kernel)
theorem tw_591 : (Jvm.Cond.methodLink "TwinConsole" (111 : Nat) ({ cls := "TwinConsole$SecondProcessor", name := "stateBits", desc := "()I" } : Jvm.MethodName)) ∈ tc_wA := tc_mem (i := 591) (by decide +kernel) (by decide +kernel)
theorem tw_593 : (Jvm.Cond.selects "TwinConsole$SecondProcessor" ({ cls := "TwinConsole$SecondProcessor", name := "stateBits", desc := "()I" } : Jvm.MethodName) ({ cls := "TwinConsole$SecondProcessor", name := "stateBits", desc := "()I" } : Jvm.MethodName)) ∈ tc_wA := tc_mem (i := 593) (by decide +kernel) (by decide +kernel)
theorem tw_592 : (Jvm.Cond.instanceMethod ({ cls := "TwinConsole$SecondProcessor", name := "stateBits", desc := "()I" } : Jvm.MethodName)) ∈ tc_wA := tc_mem (i := 592) (by decide +kernel) (by decide +kernel)
theorem tw_594 : (Jvm.Cond.code ({ cls := "TwinConsole$SecondProcessor", name := "stateBits", desc := "()I" } : Jvm.MethodName) prog_7_method_3_code (1 : Nat) (Option.some Jvm.ClassFile.FieldType.int)) ∈ tc_wA := tc_mem (i := 594) (by decide +kernel) (by decide +kernel)
theorem tw_603 : (Jvm.Cond.methodLink "TwinConsole" (117 : Nat) ({ cls := "TwinConsole$PictureUnit", name := "vramWord", desc := "(I)I" } : Jvm.MethodName)) ∈ tc_wA := tc_mem (i := 603) (by decide +kernel) (by decide +kernel)
theorem tw_604 : (Jvm.Cond.methodLink "TwinConsole" (123 : Nat) ({ cls := "TwinConsole", name := "elementOrNone", desc := "([II)I" } : Jvm.MethodName)) ∈ tc_wA := tc_mem (i := 604) (by decide +kernel) (by decide +kernel)
theorem tw_605 : (Jvm.Cond.static ({ cls := "TwinConsole", name := "elementOrNone", desc := "([II)I" } : Jvm.MethodName)) ∈ tc_wA := tc_mem (i := 605) (by decide +kernel) (by decide +kernel)
theorem tw_606 : (Jvm.Cond.code ({ cls := "TwinConsole", name := "elementOrNone", desc := "([II)I" } : Jvm.MethodName) prog_1_method_12_code (2 : Nat) (Option.some Jvm.ClassFile.FieldType.int)) ∈ tc_wA := tc_mem (i := 606) (by decide +kernel) (by decide +kernel)
theorem tw_607 : (Jvm.Cond.methodLink "TwinConsole" (133 : Nat) ({ cls := "TwinConsole", name := "portState", desc := "(I)I" } : Jvm.MethodName)) ∈ tc_wA := tc_mem (i := 607) (by decide +kernel) (by decide +kernel)
theorem tw_609 : (Jvm.Cond.instanceMethod ({ cls := "TwinConsole", name := "portState", desc := "(I)I" } : Jvm.MethodName)) ∈ tc_wA := tc_mem (i := 609) (by decide +kernel) (by decide +kernel)
theorem tw_610 : (Jvm.Cond.code ({ cls := "TwinConsole", name := "portState", desc := "(I)I" } : Jvm.MethodName) prog_1_method_13_code (2 : Nat) (Option.some Jvm.ClassFile.FieldType.int)) ∈ tc_wA := tc_mem (i := 610) (by decide +kernel) (by decide +kernel)
theorem tw_775 : (Jvm.Cond.methodLink "TwinConsoleModel" (47 : Nat) ({ cls := "TwinConsoleModel", name := "isOut", desc := "()Z" } : Jvm.MethodName)) ∈ tc_wA := tc_mem (i := 775) (by decide +kernel) (by decide +kernel)
theorem tw_8 : (Jvm.Cond.initialized "TwinConsoleModel") ∈ tc_wA := tc_mem (i := 8) (by decide +kernel) (by decide +kernel)
theorem tw_777 : (Jvm.Cond.instanceMethod ({ cls := "TwinConsoleModel", name := "isOut", desc := "()Z" } : Jvm.MethodName)) ∈ tc_wA := tc_mem (i := 777) (by decide +kernel) (by decide +kernel)
theorem tw_778 : (Jvm.Cond.code ({ cls := "TwinConsoleModel", name := "isOut", desc := "()Z" } : Jvm.MethodName) prog_9_method_2_code (1 : Nat) (Option.some Jvm.ClassFile.FieldType.boolean)) ∈ tc_wA := tc_mem (i := 778) (by decide +kernel) (by decide +kernel)
theorem tw_771 : (Jvm.Cond.methodLink "TwinConsoleModel" (76 : Nat) ({ cls := "TwinConsoleModel", name := "quiet", desc := "(I)I" } : Jvm.MethodName)) ∈ tc_wA := tc_mem (i := 771) (by decide +kernel) (by decide +kernel)
theorem tw_773 : (Jvm.Cond.instanceMethod ({ cls := "TwinConsoleModel", name := "quiet", desc := "(I)I" } : Jvm.MethodName)) ∈ tc_wA := tc_mem (i := 773) (by decide +kernel) (by decide +kernel)
theorem tw_774 : (Jvm.Cond.code ({ cls := "TwinConsoleModel", name := "quiet", desc := "(I)I" } : Jvm.MethodName) prog_9_method_3_code (2 : Nat) (Option.some Jvm.ClassFile.FieldType.int)) ∈ tc_wA := tc_mem (i := 774) (by decide +kernel) (by decide +kernel)
theorem tw_779 : (Jvm.Cond.methodLink "TwinConsoleModel" (217 : Nat) ({ cls := "TwinConsoleModel", name := "setFlagWord", desc := "(I)V" } : Jvm.MethodName)) ∈ tc_wA := tc_mem (i := 779) (by decide +kernel) (by decide +kernel)
theorem tw_781 : (Jvm.Cond.instanceMethod ({ cls := "TwinConsoleModel", name := "setFlagWord", desc := "(I)V" } : Jvm.MethodName)) ∈ tc_wA := tc_mem (i := 781) (by decide +kernel) (by decide +kernel)
theorem tw_782 : (Jvm.Cond.code ({ cls := "TwinConsoleModel", name := "setFlagWord", desc := "(I)V" } : Jvm.MethodName) prog_9_method_21_code (2 : Nat) (Option.none : Option Jvm.ClassFile.FieldType)) ∈ tc_wA := tc_mem (i := 782) (by decide +kernel) (by decide +kernel)
theorem tw_857 : (Jvm.Cond.methodLink "TwinConsoleModel" (205 : Nat) ({ cls := "TwinConsoleModel", name := "fetch", desc := "()I" } : Jvm.MethodName)) ∈ tc_wA := tc_mem (i := 857) (by decide +kernel) (by decide +kernel)
theorem tw_859 : (Jvm.Cond.instanceMethod ({ cls := "TwinConsoleModel", name := "fetch", desc := "()I" } : Jvm.MethodName)) ∈ tc_wA := tc_mem (i := 859) (by decide +kernel) (by decide +kernel)
theorem tw_860 : (Jvm.Cond.code ({ cls := "TwinConsoleModel", name := "fetch", desc := "()I" } : Jvm.MethodName) prog_9_method_24_code (2 : Nat) (Option.some Jvm.ClassFile.FieldType.int)) ∈ tc_wA := tc_mem (i := 860) (by decide +kernel) (by decide +kernel)
theorem tw_898 : (Jvm.Cond.methodLink "TwinConsoleModel" (212 : Nat) ({ cls := "TwinConsoleModel", name := "add", desc := "(IIZ)I" } : Jvm.MethodName)) ∈ tc_wA := tc_mem (i := 898) (by decide +kernel) (by decide +kernel)
theorem tw_900 : (Jvm.Cond.instanceMethod ({ cls := "TwinConsoleModel", name := "add", desc := "(IIZ)I" } : Jvm.MethodName)) ∈ tc_wA := tc_mem (i := 900) (by decide +kernel) (by decide +kernel)
theorem tw_901 : (Jvm.Cond.code ({ cls := "TwinConsoleModel", name := "add", desc := "(IIZ)I" } : Jvm.MethodName) prog_9_method_26_code (7 : Nat) (Option.some Jvm.ClassFile.FieldType.int)) ∈ tc_wA := tc_mem (i := 901) (by decide +kernel) (by decide +kernel)
theorem tw_867 : (Jvm.Cond.methodLink "TwinConsoleModel" (199 : Nat) ({ cls := "TwinConsoleModel", name := "setLow", desc := "(II)V" } : Jvm.MethodName)) ∈ tc_wA := tc_mem (i := 867) (by decide +kernel) (by decide +kernel)
theorem tw_869 : (Jvm.Cond.instanceMethod ({ cls := "TwinConsoleModel", name := "setLow", desc := "(II)V" } : Jvm.MethodName)) ∈ tc_wA := tc_mem (i := 869) (by decide +kernel) (by decide +kernel)
theorem tw_870 : (Jvm.Cond.code ({ cls := "TwinConsoleModel", name := "setLow", desc := "(II)V" } : Jvm.MethodName) prog_9_method_23_code (3 : Nat) (Option.none : Option Jvm.ClassFile.FieldType)) ∈ tc_wA := tc_mem (i := 870) (by decide +kernel) (by decide +kernel)
theorem tw_849 : (Jvm.Cond.methodLink "TwinConsoleModel" (100 : Nat) ({ cls := "TwinConsoleModel", name := "resetSecond", desc := "(Z)V" } : Jvm.MethodName)) ∈ tc_wA := tc_mem (i := 849) (by decide +kernel) (by decide +kernel)
theorem tw_851 : (Jvm.Cond.instanceMethod ({ cls := "TwinConsoleModel", name := "resetSecond", desc := "(Z)V" } : Jvm.MethodName)) ∈ tc_wA := tc_mem (i := 851) (by decide +kernel) (by decide +kernel)
theorem tw_852 : (Jvm.Cond.code ({ cls := "TwinConsoleModel", name := "resetSecond", desc := "(Z)V" } : Jvm.MethodName) prog_9_method_8_code (2 : Nat) (Option.none : Option Jvm.ClassFile.FieldType)) ∈ tc_wA := tc_mem (i := 852) (by decide +kernel) (by decide +kernel)
theorem tw_832 : (Jvm.Cond.methodLink "TwinConsoleModel" (147 : Nat) ({ cls := "TwinConsoleModel", name := "length", desc := "()I" } : Jvm.MethodName)) ∈ tc_wA := tc_mem (i := 832) (by decide +kernel) (by decide +kernel)
theorem tw_834 : (Jvm.Cond.instanceMethod ({ cls := "TwinConsoleModel", name := "length", desc := "()I" } : Jvm.MethodName)) ∈ tc_wA := tc_mem (i := 834) (by decide +kernel) (by decide +kernel)
theorem tw_835 : (Jvm.Cond.code ({ cls := "TwinConsoleModel", name := "length", desc := "()I" } : Jvm.MethodName) prog_9_method_13_code (2 : Nat) (Option.some Jvm.ClassFile.FieldType.int)) ∈ tc_wA := tc_mem (i := 835) (by decide +kernel) (by decide +kernel)
theorem tw_844 : (Jvm.Cond.methodLink "TwinConsoleModel" (153 : Nat) ({ cls := "TwinConsoleModel", name := "half", desc := "()I" } : Jvm.MethodName)) ∈ tc_wA := tc_mem (i := 844) (by decide +kernel) (by decide +kernel)
theorem tw_846 : (Jvm.Cond.instanceMethod ({ cls := "TwinConsoleModel", name := "half", desc := "()I" } : Jvm.MethodName)) ∈ tc_wA := tc_mem (i := 846) (by decide +kernel) (by decide +kernel)
theorem tw_847 : (Jvm.Cond.code ({ cls := "TwinConsoleModel", name := "half", desc := "()I" } : Jvm.MethodName) prog_9_method_16_code (1 : Nat) (Option.some Jvm.ClassFile.FieldType.int)) ∈ tc_wA := tc_mem (i := 847) (by decide +kernel) (by decide +kernel)
theorem tw_808 : (Jvm.Cond.methodLink "TwinConsoleModel" (150 : Nat) ({ cls := "TwinConsoleModel", name := "endMove", desc := "()V" } : Jvm.MethodName)) ∈ tc_wA := tc_mem (i := 808) (by decide +kernel) (by decide +kernel)
theorem tw_810 : (Jvm.Cond.instanceMethod ({ cls := "TwinConsoleModel", name := "endMove", desc := "()V" } : Jvm.MethodName)) ∈ tc_wA := tc_mem (i := 810) (by decide +kernel) (by decide +kernel)
theorem tw_811 : (Jvm.Cond.code ({ cls := "TwinConsoleModel", name := "endMove", desc := "()V" } : Jvm.MethodName) prog_9_method_14_code (1 : Nat) (Option.none : Option Jvm.ClassFile.FieldType)) ∈ tc_wA := tc_mem (i := 811) (by decide +kernel) (by decide +kernel)
theorem tw_803 : (Jvm.Cond.methodLink "TwinConsoleModel" (138 : Nat) ({ cls := "TwinConsoleModel", name := "grow", desc := "()V" } : Jvm.MethodName)) ∈ tc_wA := tc_mem (i := 803) (by decide +kernel) (by decide +kernel)
theorem tw_805 : (Jvm.Cond.instanceMethod ({ cls := "TwinConsoleModel", name := "grow", desc := "()V" } : Jvm.MethodName)) ∈ tc_wA := tc_mem (i := 805) (by decide +kernel) (by decide +kernel)
theorem tw_806 : (Jvm.Cond.code ({ cls := "TwinConsoleModel", name := "grow", desc := "()V" } : Jvm.MethodName) prog_9_method_10_code (1 : Nat) (Option.none : Option Jvm.ClassFile.FieldType)) ∈ tc_wA := tc_mem (i := 806) (by decide +kernel) (by decide +kernel)
theorem tw_840 : (Jvm.Cond.methodLink "TwinConsoleModel" (159 : Nat) ({ cls := "TwinConsoleModel", name := "begin", desc := "()V" } : Jvm.MethodName)) ∈ tc_wA := tc_mem (i := 840) (by decide +kernel) (by decide +kernel)
theorem tw_842 : (Jvm.Cond.instanceMethod ({ cls := "TwinConsoleModel", name := "begin", desc := "()V" } : Jvm.MethodName)) ∈ tc_wA := tc_mem (i := 842) (by decide +kernel) (by decide +kernel)
theorem tw_843 : (Jvm.Cond.code ({ cls := "TwinConsoleModel", name := "begin", desc := "()V" } : Jvm.MethodName) prog_9_method_17_code (5 : Nat) (Option.none : Option Jvm.ClassFile.FieldType)) ∈ tc_wA := tc_mem (i := 843) (by decide +kernel) (by decide +kernel)
theorem tw_836 : (Jvm.Cond.methodLink "TwinConsoleModel" (97 : Nat) ({ cls := "TwinConsoleModel", name := "control", desc := "(I)V" } : Jvm.MethodName)) ∈ tc_wA := tc_mem (i := 836) (by decide +kernel) (by decide +kernel)
theorem tw_838 : (Jvm.Cond.instanceMethod ({ cls := "TwinConsoleModel", name := "control", desc := "(I)V" } : Jvm.MethodName)) ∈ tc_wA := tc_mem (i := 838) (by decide +kernel) (by decide +kernel)
theorem tw_839 : (Jvm.Cond.code ({ cls := "TwinConsoleModel", name := "control", desc := "(I)V" } : Jvm.MethodName) prog_9_method_18_code (2 : Nat) (Option.none : Option Jvm.ClassFile.FieldType)) ∈ tc_wA := tc_mem (i := 839) (by decide +kernel) (by decide +kernel)
theorem tw_799 : (Jvm.Cond.methodLink "TwinConsoleModel" (141 : Nat) ({ cls := "TwinConsoleModel", name := "put", desc := "(I)V" } : Jvm.MethodName)) ∈ tc_wA := tc_mem (i := 799) (by decide +kernel) (by decide +kernel)
theorem tw_801 : (Jvm.Cond.instanceMethod ({ cls := "TwinConsoleModel", name := "put", desc := "(I)V" } : Jvm.MethodName)) ∈ tc_wA := tc_mem (i := 801) (by decide +kernel) (by decide +kernel)
theorem tw_802 : (Jvm.Cond.code ({ cls := "TwinConsoleModel", name := "put", desc := "(I)V" } : Jvm.MethodName) prog_9_method_12_code (5 : Nat) (Option.none : Option Jvm.ClassFile.FieldType)) ∈ tc_wA := tc_mem (i := 802) (by decide +kernel) (by decide +kernel)
theorem tw_828 : (Jvm.Cond.methodLink "TwinConsoleModel" (93 : Nat) ({ cls := "TwinConsoleModel", name := "writeData", desc := "(I)V" } : Jvm.MethodName)) ∈ tc_wA := tc_mem (i := 828) (by decide +kernel) (by decide +kernel)
theorem tw_830 : (Jvm.Cond.instanceMethod ({ cls := "TwinConsoleModel", name := "writeData", desc := "(I)V" } : Jvm.MethodName)) ∈ tc_wA := tc_mem (i := 830) (by decide +kernel) (by decide +kernel)
theorem tw_831 : (Jvm.Cond.code ({ cls := "TwinConsoleModel", name := "writeData", desc := "(I)V" } : Jvm.MethodName) prog_9_method_15_code (4 : Nat) (Option.none : Option Jvm.ClassFile.FieldType)) ∈ tc_wA := tc_mem (i := 831) (by decide +kernel) (by decide +kernel)
theorem tw_824 : (Jvm.Cond.methodLink "TwinConsoleModel" (189 : Nat) ({ cls := "TwinConsoleModel", name := "write", desc := "(II)V" } : Jvm.MethodName)) ∈ tc_wA := tc_mem (i := 824) (by decide +kernel) (by decide +kernel)
theorem tw_826 : (Jvm.Cond.instanceMethod ({ cls := "TwinConsoleModel", name := "write", desc := "(II)V" } : Jvm.MethodName)) ∈ tc_wA := tc_mem (i := 826) (by decide +kernel) (by decide +kernel)
theorem tw_827 : (Jvm.Cond.code ({ cls := "TwinConsoleModel", name := "write", desc := "(II)V" } : Jvm.MethodName) prog_9_method_7_code (3 : Nat) (Option.none : Option Jvm.ClassFile.FieldType)) ∈ tc_wA := tc_mem (i := 827) (by decide +kernel) (by decide +kernel)
theorem tw_872 : (Jvm.Cond.methodLink "TwinConsoleModel" (202 : Nat) ({ cls := "TwinConsoleModel", name := "testWord", desc := "(I)V" } : Jvm.MethodName)) ∈ tc_wA := tc_mem (i := 872) (by decide +kernel) (by decide +kernel)
theorem tw_874 : (Jvm.Cond.instanceMethod ({ cls := "TwinConsoleModel", name := "testWord", desc := "(I)V" } : Jvm.MethodName)) ∈ tc_wA := tc_mem (i := 874) (by decide +kernel) (by decide +kernel)
theorem tw_875 : (Jvm.Cond.code ({ cls := "TwinConsoleModel", name := "testWord", desc := "(I)V" } : Jvm.MethodName) prog_9_method_22_code (2 : Nat) (Option.none : Option Jvm.ClassFile.FieldType)) ∈ tc_wA := tc_mem (i := 875) (by decide +kernel) (by decide +kernel)
theorem tw_885 : (Jvm.Cond.methodLink "TwinConsoleModel" (135 : Nat) ({ cls := "TwinConsoleModel", name := "vramWord", desc := "(I)I" } : Jvm.MethodName)) ∈ tc_wA := tc_mem (i := 885) (by decide +kernel) (by decide +kernel)
theorem tw_887 : (Jvm.Cond.instanceMethod ({ cls := "TwinConsoleModel", name := "vramWord", desc := "(I)I" } : Jvm.MethodName)) ∈ tc_wA := tc_mem (i := 887) (by decide +kernel) (by decide +kernel)
theorem tw_888 : (Jvm.Cond.code ({ cls := "TwinConsoleModel", name := "vramWord", desc := "(I)I" } : Jvm.MethodName) prog_9_method_9_code (2 : Nat) (Option.some Jvm.ClassFile.FieldType.int)) ∈ tc_wA := tc_mem (i := 888) (by decide +kernel) (by decide +kernel)
theorem tw_881 : (Jvm.Cond.methodLink "TwinConsoleModel" (80 : Nat) ({ cls := "TwinConsoleModel", name := "readData", desc := "()I" } : Jvm.MethodName)) ∈ tc_wA := tc_mem (i := 881) (by decide +kernel) (by decide +kernel)
theorem tw_883 : (Jvm.Cond.instanceMethod ({ cls := "TwinConsoleModel", name := "readData", desc := "()I" } : Jvm.MethodName)) ∈ tc_wA := tc_mem (i := 883) (by decide +kernel) (by decide +kernel)
theorem tw_884 : (Jvm.Cond.code ({ cls := "TwinConsoleModel", name := "readData", desc := "()I" } : Jvm.MethodName) prog_9_method_11_code (4 : Nat) (Option.some Jvm.ClassFile.FieldType.int)) ∈ tc_wA := tc_mem (i := 884) (by decide +kernel) (by decide +kernel)
theorem tw_889 : (Jvm.Cond.methodLink "TwinConsoleModel" (84 : Nat) ({ cls := "TwinConsoleModel", name := "status", desc := "()I" } : Jvm.MethodName)) ∈ tc_wA := tc_mem (i := 889) (by decide +kernel) (by decide +kernel)
theorem tw_891 : (Jvm.Cond.instanceMethod ({ cls := "TwinConsoleModel", name := "status", desc := "()I" } : Jvm.MethodName)) ∈ tc_wA := tc_mem (i := 891) (by decide +kernel) (by decide +kernel)
theorem tw_892 : (Jvm.Cond.code ({ cls := "TwinConsoleModel", name := "status", desc := "()I" } : Jvm.MethodName) prog_9_method_4_code (2 : Nat) (Option.some Jvm.ClassFile.FieldType.int)) ∈ tc_wA := tc_mem (i := 892) (by decide +kernel) (by decide +kernel)
theorem tw_893 : (Jvm.Cond.methodLink "TwinConsoleModel" (90 : Nat) ({ cls := "TwinConsoleModel", name := "padWord", desc := "()I" } : Jvm.MethodName)) ∈ tc_wA := tc_mem (i := 893) (by decide +kernel) (by decide +kernel)
theorem tw_895 : (Jvm.Cond.instanceMethod ({ cls := "TwinConsoleModel", name := "padWord", desc := "()I" } : Jvm.MethodName)) ∈ tc_wA := tc_mem (i := 895) (by decide +kernel) (by decide +kernel)
theorem tw_896 : (Jvm.Cond.code ({ cls := "TwinConsoleModel", name := "padWord", desc := "()I" } : Jvm.MethodName) prog_9_method_5_code (2 : Nat) (Option.some Jvm.ClassFile.FieldType.int)) ∈ tc_wA := tc_mem (i := 896) (by decide +kernel) (by decide +kernel)
theorem tw_877 : (Jvm.Cond.methodLink "TwinConsoleModel" (208 : Nat) ({ cls := "TwinConsoleModel", name := "read", desc := "(I)I" } : Jvm.MethodName)) ∈ tc_wA := tc_mem (i := 877) (by decide +kernel) (by decide +kernel)
theorem tw_879 : (Jvm.Cond.instanceMethod ({ cls := "TwinConsoleModel", name := "read", desc := "(I)I" } : Jvm.MethodName)) ∈ tc_wA := tc_mem (i := 879) (by decide +kernel) (by decide +kernel)
theorem tw_880 : (Jvm.Cond.code ({ cls := "TwinConsoleModel", name := "read", desc := "(I)I" } : Jvm.MethodName) prog_9_method_6_code (2 : Nat) (Option.some Jvm.ClassFile.FieldType.int)) ∈ tc_wA := tc_mem (i := 880) (by decide +kernel) (by decide +kernel)
theorem tw_861 : (Jvm.Cond.methodLink "TwinConsoleModel" (226 : Nat) ({ cls := "TwinConsoleModel", name := "move", desc := "(I)I" } : Jvm.MethodName)) ∈ tc_wA := tc_mem (i := 861) (by decide +kernel) (by decide +kernel)
theorem tw_863 : (Jvm.Cond.instanceMethod ({ cls := "TwinConsoleModel", name := "move", desc := "(I)I" } : Jvm.MethodName)) ∈ tc_wA := tc_mem (i := 863) (by decide +kernel) (by decide +kernel)
theorem tw_864 : (Jvm.Cond.code ({ cls := "TwinConsoleModel", name := "move", desc := "(I)I" } : Jvm.MethodName) prog_9_method_29_code (6 : Nat) (Option.some Jvm.ClassFile.FieldType.int)) ∈ tc_wA := tc_mem (i := 864) (by decide +kernel) (by decide +kernel)
theorem tw_820 : (Jvm.Cond.methodLink "TwinConsoleModel" (186 : Nat) ({ cls := "TwinConsoleModel", name := "flagWord", desc := "()I" } : Jvm.MethodName)) ∈ tc_wA := tc_mem (i := 820) (by decide +kernel) (by decide +kernel)
theorem tw_822 : (Jvm.Cond.instanceMethod ({ cls := "TwinConsoleModel", name := "flagWord", desc := "()I" } : Jvm.MethodName)) ∈ tc_wA := tc_mem (i := 822) (by decide +kernel) (by decide +kernel)
theorem tw_823 : (Jvm.Cond.code ({ cls := "TwinConsoleModel", name := "flagWord", desc := "()I" } : Jvm.MethodName) prog_9_method_20_code (1 : Nat) (Option.some Jvm.ClassFile.FieldType.int)) ∈ tc_wA := tc_mem (i := 823) (by decide +kernel) (by decide +kernel)
theorem tw_816 : (Jvm.Cond.methodLink "TwinConsoleModel" (232 : Nat) ({ cls := "TwinConsoleModel", name := "exception", desc := "(I)V" } : Jvm.MethodName)) ∈ tc_wA := tc_mem (i := 816) (by decide +kernel) (by decide +kernel)
theorem tw_818 : (Jvm.Cond.instanceMethod ({ cls := "TwinConsoleModel", name := "exception", desc := "(I)V" } : Jvm.MethodName)) ∈ tc_wA := tc_mem (i := 818) (by decide +kernel) (by decide +kernel)
theorem tw_819 : (Jvm.Cond.code ({ cls := "TwinConsoleModel", name := "exception", desc := "(I)V" } : Jvm.MethodName) prog_9_method_25_code (2 : Nat) (Option.none : Option Jvm.ClassFile.FieldType)) ∈ tc_wA := tc_mem (i := 819) (by decide +kernel) (by decide +kernel)
theorem tw_911 : (Jvm.Cond.methodLink "TwinConsoleModel" (193 : Nat) ({ cls := "TwinConsoleModel", name := "holds", desc := "(I)Z" } : Jvm.MethodName)) ∈ tc_wA := tc_mem (i := 911) (by decide +kernel) (by decide +kernel)
theorem tw_913 : (Jvm.Cond.instanceMethod ({ cls := "TwinConsoleModel", name := "holds", desc := "(I)Z" } : Jvm.MethodName)) ∈ tc_wA := tc_mem (i := 913) (by decide +kernel) (by decide +kernel)
theorem tw_914 : (Jvm.Cond.code ({ cls := "TwinConsoleModel", name := "holds", desc := "(I)Z" } : Jvm.MethodName) prog_9_method_27_code (2 : Nat) (Option.some Jvm.ClassFile.FieldType.boolean)) ∈ tc_wA := tc_mem (i := 914) (by decide +kernel) (by decide +kernel)
theorem tw_907 : (Jvm.Cond.methodLink "TwinConsoleModel" (223 : Nat) ({ cls := "TwinConsoleModel", name := "branch", desc := "(I)I" } : Jvm.MethodName)) ∈ tc_wA := tc_mem (i := 907) (by decide +kernel) (by decide +kernel)
theorem tw_909 : (Jvm.Cond.instanceMethod ({ cls := "TwinConsoleModel", name := "branch", desc := "(I)I" } : Jvm.MethodName)) ∈ tc_wA := tc_mem (i := 909) (by decide +kernel) (by decide +kernel)
theorem tw_910 : (Jvm.Cond.code ({ cls := "TwinConsoleModel", name := "branch", desc := "(I)I" } : Jvm.MethodName) prog_9_method_28_code (4 : Nat) (Option.some Jvm.ClassFile.FieldType.int)) ∈ tc_wA := tc_mem (i := 910) (by decide +kernel) (by decide +kernel)
theorem tw_903 : (Jvm.Cond.methodLink "TwinConsoleModel" (229 : Nat) ({ cls := "TwinConsoleModel", name := "control2", desc := "(I)I" } : Jvm.MethodName)) ∈ tc_wA := tc_mem (i := 903) (by decide +kernel) (by decide +kernel)
theorem tw_905 : (Jvm.Cond.instanceMethod ({ cls := "TwinConsoleModel", name := "control2", desc := "(I)I" } : Jvm.MethodName)) ∈ tc_wA := tc_mem (i := 905) (by decide +kernel) (by decide +kernel)
theorem tw_906 : (Jvm.Cond.code ({ cls := "TwinConsoleModel", name := "control2", desc := "(I)I" } : Jvm.MethodName) prog_9_method_30_code (3 : Nat) (Option.some Jvm.ClassFile.FieldType.int)) ∈ tc_wA := tc_mem (i := 906) (by decide +kernel) (by decide +kernel)
theorem tw_853 : (Jvm.Cond.methodLink "TwinConsoleModel" (250 : Nat) ({ cls := "TwinConsoleModel", name := "instruction", desc := "()I" } : Jvm.MethodName)) ∈ tc_wA := tc_mem (i := 853) (by decide +kernel) (by decide +kernel)
theorem tw_855 : (Jvm.Cond.instanceMethod ({ cls := "TwinConsoleModel", name := "instruction", desc := "()I" } : Jvm.MethodName)) ∈ tc_wA := tc_mem (i := 855) (by decide +kernel) (by decide +kernel)
theorem tw_856 : (Jvm.Cond.code ({ cls := "TwinConsoleModel", name := "instruction", desc := "()I" } : Jvm.MethodName) prog_9_method_31_code (3 : Nat) (Option.some Jvm.ClassFile.FieldType.int)) ∈ tc_wA := tc_mem (i := 856) (by decide +kernel) (by decide +kernel)
theorem tw_812 : (Jvm.Cond.methodLink "TwinConsoleModel" (238 : Nat) ({ cls := "TwinConsoleModel", name := "interrupt", desc := "(I)I" } : Jvm.MethodName)) ∈ tc_wA := tc_mem (i := 812) (by decide +kernel) (by decide +kernel)
theorem tw_814 : (Jvm.Cond.instanceMethod ({ cls := "TwinConsoleModel", name := "interrupt", desc := "(I)I" } : Jvm.MethodName)) ∈ tc_wA := tc_mem (i := 814) (by decide +kernel) (by decide +kernel)
theorem tw_815 : (Jvm.Cond.code ({ cls := "TwinConsoleModel", name := "interrupt", desc := "(I)I" } : Jvm.MethodName) prog_9_method_32_code (2 : Nat) (Option.some Jvm.ClassFile.FieldType.int)) ∈ tc_wA := tc_mem (i := 815) (by decide +kernel) (by decide +kernel)
theorem tw_795 : (Jvm.Cond.methodLink "TwinConsoleModel" (235 : Nat) ({ cls := "TwinConsoleModel", name := "moveWord", desc := "()V" } : Jvm.MethodName)) ∈ tc_wA := tc_mem (i := 795) (by decide +kernel) (by decide +kernel)
theorem tw_797 : (Jvm.Cond.instanceMethod ({ cls := "TwinConsoleModel", name := "moveWord", desc := "()V" } : Jvm.MethodName)) ∈ tc_wA := tc_mem (i := 797) (by decide +kernel) (by decide +kernel)
theorem tw_798 : (Jvm.Cond.code ({ cls := "TwinConsoleModel", name := "moveWord", desc := "()V" } : Jvm.MethodName) prog_9_method_19_code (1 : Nat) (Option.none : Option Jvm.ClassFile.FieldType)) ∈ tc_wA := tc_mem (i := 798) (by decide +kernel) (by decide +kernel)
theorem tw_791 : (Jvm.Cond.methodLink "TwinConsoleModel" (309 : Nat) ({ cls := "TwinConsoleModel", name := "mainStep", desc := "()I" } : Jvm.MethodName)) ∈ tc_wA := tc_mem (i := 791) (by decide +kernel) (by decide +kernel)
theorem tw_793 : (Jvm.Cond.instanceMethod ({ cls := "TwinConsoleModel", name := "mainStep", desc := "()I" } : Jvm.MethodName)) ∈ tc_wA := tc_mem (i := 793) (by decide +kernel) (by decide +kernel)
theorem tw_794 : (Jvm.Cond.code ({ cls := "TwinConsoleModel", name := "mainStep", desc := "()I" } : Jvm.MethodName) prog_9_method_33_code (1 : Nat) (Option.some Jvm.ClassFile.FieldType.int)) ∈ tc_wA := tc_mem (i := 794) (by decide +kernel) (by decide +kernel)
theorem tw_927 : (Jvm.Cond.methodLink "TwinConsoleModel" (256 : Nat) ({ cls := "TwinConsoleModel", name := "load", desc := "(I)I" } : Jvm.MethodName)) ∈ tc_wA := tc_mem (i := 927) (by decide +kernel) (by decide +kernel)
theorem tw_929 : (Jvm.Cond.instanceMethod ({ cls := "TwinConsoleModel", name := "load", desc := "(I)I" } : Jvm.MethodName)) ∈ tc_wA := tc_mem (i := 929) (by decide +kernel) (by decide +kernel)
theorem tw_930 : (Jvm.Cond.code ({ cls := "TwinConsoleModel", name := "load", desc := "(I)I" } : Jvm.MethodName) prog_9_method_34_code (2 : Nat) (Option.some Jvm.ClassFile.FieldType.int)) ∈ tc_wA := tc_mem (i := 930) (by decide +kernel) (by decide +kernel)
theorem tw_923 : (Jvm.Cond.methodLink "TwinConsoleModel" (259 : Nat) ({ cls := "TwinConsoleModel", name := "next", desc := "()I" } : Jvm.MethodName)) ∈ tc_wA := tc_mem (i := 923) (by decide +kernel) (by decide +kernel)
theorem tw_925 : (Jvm.Cond.instanceMethod ({ cls := "TwinConsoleModel", name := "next", desc := "()I" } : Jvm.MethodName)) ∈ tc_wA := tc_mem (i := 925) (by decide +kernel) (by decide +kernel)
theorem tw_926 : (Jvm.Cond.code ({ cls := "TwinConsoleModel", name := "next", desc := "()I" } : Jvm.MethodName) prog_9_method_35_code (2 : Nat) (Option.some Jvm.ClassFile.FieldType.int)) ∈ tc_wA := tc_mem (i := 926) (by decide +kernel) (by decide +kernel)
theorem tw_935 : (Jvm.Cond.methodLink "TwinConsoleModel" (265 : Nat) ({ cls := "TwinConsoleModel", name := "pair", desc := "()I" } : Jvm.MethodName)) ∈ tc_wA := tc_mem (i := 935) (by decide +kernel) (by decide +kernel)
theorem tw_937 : (Jvm.Cond.instanceMethod ({ cls := "TwinConsoleModel", name := "pair", desc := "()I" } : Jvm.MethodName)) ∈ tc_wA := tc_mem (i := 937) (by decide +kernel) (by decide +kernel)
theorem tw_938 : (Jvm.Cond.code ({ cls := "TwinConsoleModel", name := "pair", desc := "()I" } : Jvm.MethodName) prog_9_method_36_code (2 : Nat) (Option.some Jvm.ClassFile.FieldType.int)) ∈ tc_wA := tc_mem (i := 938) (by decide +kernel) (by decide +kernel)
theorem tw_931 : (Jvm.Cond.methodLink "TwinConsoleModel" (262 : Nat) ({ cls := "TwinConsoleModel", name := "becomes", desc := "(I)V" } : Jvm.MethodName)) ∈ tc_wA := tc_mem (i := 931) (by decide +kernel) (by decide +kernel)
theorem tw_933 : (Jvm.Cond.instanceMethod ({ cls := "TwinConsoleModel", name := "becomes", desc := "(I)V" } : Jvm.MethodName)) ∈ tc_wA := tc_mem (i := 933) (by decide +kernel) (by decide +kernel)
theorem tw_934 : (Jvm.Cond.code ({ cls := "TwinConsoleModel", name := "becomes", desc := "(I)V" } : Jvm.MethodName) prog_9_method_37_code (2 : Nat) (Option.none : Option Jvm.ClassFile.FieldType)) ∈ tc_wA := tc_mem (i := 934) (by decide +kernel) (by decide +kernel)
theorem tw_919 : (Jvm.Cond.methodLink "TwinConsoleModel" (268 : Nat) ({ cls := "TwinConsoleModel", name := "second", desc := "()I" } : Jvm.MethodName)) ∈ tc_wA := tc_mem (i := 919) (by decide +kernel) (by decide +kernel)
theorem tw_921 : (Jvm.Cond.instanceMethod ({ cls := "TwinConsoleModel", name := "second", desc := "()I" } : Jvm.MethodName)) ∈ tc_wA := tc_mem (i := 921) (by decide +kernel) (by decide +kernel)
theorem tw_922 : (Jvm.Cond.code ({ cls := "TwinConsoleModel", name := "second", desc := "()I" } : Jvm.MethodName) prog_9_method_38_code (4 : Nat) (Option.some Jvm.ClassFile.FieldType.int)) ∈ tc_wA := tc_mem (i := 922) (by decide +kernel) (by decide +kernel)
theorem tw_915 : (Jvm.Cond.methodLink "TwinConsoleModel" (312 : Nat) ({ cls := "TwinConsoleModel", name := "give", desc := "(I)V" } : Jvm.MethodName)) ∈ tc_wA := tc_mem (i := 915) (by decide +kernel) (by decide +kernel)
theorem tw_917 : (Jvm.Cond.instanceMethod ({ cls := "TwinConsoleModel", name := "give", desc := "(I)V" } : Jvm.MethodName)) ∈ tc_wA := tc_mem (i := 917) (by decide +kernel) (by decide +kernel)
theorem tw_918 : (Jvm.Cond.code ({ cls := "TwinConsoleModel", name := "give", desc := "(I)V" } : Jvm.MethodName) prog_9_method_39_code (3 : Nat) (Option.none : Option Jvm.ClassFile.FieldType)) ∈ tc_wA := tc_mem (i := 918) (by decide +kernel) (by decide +kernel)
theorem tw_979 : (Jvm.Cond.methodLink "TwinConsoleModel" (280 : Nat) ({ cls := "TwinConsoleModel", name := "tellSecond", desc := "()V" } : Jvm.MethodName)) ∈ tc_wA := tc_mem (i := 979) (by decide +kernel) (by decide +kernel)
theorem tw_981 : (Jvm.Cond.instanceMethod ({ cls := "TwinConsoleModel", name := "tellSecond", desc := "()V" } : Jvm.MethodName)) ∈ tc_wA := tc_mem (i := 981) (by decide +kernel) (by decide +kernel)
theorem tw_982 : (Jvm.Cond.code ({ cls := "TwinConsoleModel", name := "tellSecond", desc := "()V" } : Jvm.MethodName) prog_9_method_40_code (1 : Nat) (Option.none : Option Jvm.ClassFile.FieldType)) ∈ tc_wA := tc_mem (i := 982) (by decide +kernel) (by decide +kernel)
theorem tw_955 : (Jvm.Cond.methodLink "TwinConsoleModel" (293 : Nat) ({ cls := "TwinConsoleModel", name := "spriteWord", desc := "(II)I" } : Jvm.MethodName)) ∈ tc_wA := tc_mem (i := 955) (by decide +kernel) (by decide +kernel)
theorem tw_957 : (Jvm.Cond.instanceMethod ({ cls := "TwinConsoleModel", name := "spriteWord", desc := "(II)I" } : Jvm.MethodName)) ∈ tc_wA := tc_mem (i := 957) (by decide +kernel) (by decide +kernel)
theorem tw_958 : (Jvm.Cond.code ({ cls := "TwinConsoleModel", name := "spriteWord", desc := "(II)I" } : Jvm.MethodName) prog_9_method_46_code (3 : Nat) (Option.some Jvm.ClassFile.FieldType.int)) ∈ tc_wA := tc_mem (i := 958) (by decide +kernel) (by decide +kernel)
theorem tw_967 : (Jvm.Cond.methodLink "TwinConsoleModel" (283 : Nat) ({ cls := "TwinConsoleModel", name := "patternPixel", desc := "(III)I" } : Jvm.MethodName)) ∈ tc_wA := tc_mem (i := 967) (by decide +kernel) (by decide +kernel)
theorem tw_969 : (Jvm.Cond.instanceMethod ({ cls := "TwinConsoleModel", name := "patternPixel", desc := "(III)I" } : Jvm.MethodName)) ∈ tc_wA := tc_mem (i := 969) (by decide +kernel) (by decide +kernel)
theorem tw_970 : (Jvm.Cond.code ({ cls := "TwinConsoleModel", name := "patternPixel", desc := "(III)I" } : Jvm.MethodName) prog_9_method_43_code (7 : Nat) (Option.some Jvm.ClassFile.FieldType.int)) ∈ tc_wA := tc_mem (i := 970) (by decide +kernel) (by decide +kernel)
theorem tw_963 : (Jvm.Cond.methodLink "TwinConsoleModel" (297 : Nat) ({ cls := "TwinConsoleModel", name := "spritePixel", desc := "(II)I" } : Jvm.MethodName)) ∈ tc_wA := tc_mem (i := 963) (by decide +kernel) (by decide +kernel)
theorem tw_965 : (Jvm.Cond.instanceMethod ({ cls := "TwinConsoleModel", name := "spritePixel", desc := "(II)I" } : Jvm.MethodName)) ∈ tc_wA := tc_mem (i := 965) (by decide +kernel) (by decide +kernel)
theorem tw_966 : (Jvm.Cond.code ({ cls := "TwinConsoleModel", name := "spritePixel", desc := "(II)I" } : Jvm.MethodName) prog_9_method_48_code (5 : Nat) (Option.some Jvm.ClassFile.FieldType.int)) ∈ tc_wA := tc_mem (i := 966) (by decide +kernel) (by decide +kernel)
theorem tw_959 : (Jvm.Cond.methodLink "TwinConsoleModel" (303 : Nat) ({ cls := "TwinConsoleModel", name := "spriteAt", desc := "(I)I" } : Jvm.MethodName)) ∈ tc_wA := tc_mem (i := 959) (by decide +kernel) (by decide +kernel)
theorem tw_961 : (Jvm.Cond.instanceMethod ({ cls := "TwinConsoleModel", name := "spriteAt", desc := "(I)I" } : Jvm.MethodName)) ∈ tc_wA := tc_mem (i := 961) (by decide +kernel) (by decide +kernel)
theorem tw_962 : (Jvm.Cond.code ({ cls := "TwinConsoleModel", name := "spriteAt", desc := "(I)I" } : Jvm.MethodName) prog_9_method_49_code (5 : Nat) (Option.some Jvm.ClassFile.FieldType.int)) ∈ tc_wA := tc_mem (i := 962) (by decide +kernel) (by decide +kernel)
theorem tw_975 : (Jvm.Cond.methodLink "TwinConsoleModel" (287 : Nat) ({ cls := "TwinConsoleModel", name := "planePixel", desc := "(III)I" } : Jvm.MethodName)) ∈ tc_wA := tc_mem (i := 975) (by decide +kernel) (by decide +kernel)
theorem tw_977 : (Jvm.Cond.instanceMethod ({ cls := "TwinConsoleModel", name := "planePixel", desc := "(III)I" } : Jvm.MethodName)) ∈ tc_wA := tc_mem (i := 977) (by decide +kernel) (by decide +kernel)
theorem tw_978 : (Jvm.Cond.code ({ cls := "TwinConsoleModel", name := "planePixel", desc := "(III)I" } : Jvm.MethodName) prog_9_method_44_code (4 : Nat) (Option.some Jvm.ClassFile.FieldType.int)) ∈ tc_wA := tc_mem (i := 978) (by decide +kernel) (by decide +kernel)
theorem tw_971 : (Jvm.Cond.methodLink "TwinConsoleModel" (306 : Nat) ({ cls := "TwinConsoleModel", name := "plane", desc := "(II)I" } : Jvm.MethodName)) ∈ tc_wA := tc_mem (i := 971) (by decide +kernel) (by decide +kernel)
theorem tw_973 : (Jvm.Cond.instanceMethod ({ cls := "TwinConsoleModel", name := "plane", desc := "(II)I" } : Jvm.MethodName)) ∈ tc_wA := tc_mem (i := 973) (by decide +kernel) (by decide +kernel)
theorem tw_974 : (Jvm.Cond.code ({ cls := "TwinConsoleModel", name := "plane", desc := "(II)I" } : Jvm.MethodName) prog_9_method_45_code (5 : Nat) (Option.some Jvm.ClassFile.FieldType.int)) ∈ tc_wA := tc_mem (i := 974) (by decide +kernel) (by decide +kernel)
theorem tw_951 : (Jvm.Cond.methodLink "TwinConsoleModel" (300 : Nat) ({ cls := "TwinConsoleModel", name := "takeSprites", desc := "()V" } : Jvm.MethodName)) ∈ tc_wA := tc_mem (i := 951) (by decide +kernel) (by decide +kernel)
theorem tw_953 : (Jvm.Cond.instanceMethod ({ cls := "TwinConsoleModel", name := "takeSprites", desc := "()V" } : Jvm.MethodName)) ∈ tc_wA := tc_mem (i := 953) (by decide +kernel) (by decide +kernel)
theorem tw_954 : (Jvm.Cond.code ({ cls := "TwinConsoleModel", name := "takeSprites", desc := "()V" } : Jvm.MethodName) prog_9_method_47_code (6 : Nat) (Option.none : Option Jvm.ClassFile.FieldType)) ∈ tc_wA := tc_mem (i := 954) (by decide +kernel) (by decide +kernel)
theorem tw_947 : (Jvm.Cond.methodLink "TwinConsoleModel" (274 : Nat) ({ cls := "TwinConsoleModel", name := "draw", desc := "()V" } : Jvm.MethodName)) ∈ tc_wA := tc_mem (i := 947) (by decide +kernel) (by decide +kernel)
theorem tw_949 : (Jvm.Cond.instanceMethod ({ cls := "TwinConsoleModel", name := "draw", desc := "()V" } : Jvm.MethodName)) ∈ tc_wA := tc_mem (i := 949) (by decide +kernel) (by decide +kernel)
theorem tw_950 : (Jvm.Cond.code ({ cls := "TwinConsoleModel", name := "draw", desc := "()V" } : Jvm.MethodName) prog_9_method_50_code (8 : Nat) (Option.none : Option Jvm.ClassFile.FieldType)) ∈ tc_wA := tc_mem (i := 950) (by decide +kernel) (by decide +kernel)
theorem tw_943 : (Jvm.Cond.methodLink "TwinConsoleModel" (271 : Nat) ({ cls := "TwinConsoleModel", name := "beginLine", desc := "()V" } : Jvm.MethodName)) ∈ tc_wA := tc_mem (i := 943) (by decide +kernel) (by decide +kernel)
theorem tw_945 : (Jvm.Cond.instanceMethod ({ cls := "TwinConsoleModel", name := "beginLine", desc := "()V" } : Jvm.MethodName)) ∈ tc_wA := tc_mem (i := 945) (by decide +kernel) (by decide +kernel)
theorem tw_946 : (Jvm.Cond.code ({ cls := "TwinConsoleModel", name := "beginLine", desc := "()V" } : Jvm.MethodName) prog_9_method_42_code (1 : Nat) (Option.none : Option Jvm.ClassFile.FieldType)) ∈ tc_wA := tc_mem (i := 946) (by decide +kernel) (by decide +kernel)
theorem tw_939 : (Jvm.Cond.methodLink "TwinConsoleModel" (315 : Nat) ({ cls := "TwinConsoleModel", name := "goOn", desc := "(I)V" } : Jvm.MethodName)) ∈ tc_wA := tc_mem (i := 939) (by decide +kernel) (by decide +kernel)
theorem tw_941 : (Jvm.Cond.instanceMethod ({ cls := "TwinConsoleModel", name := "goOn", desc := "(I)V" } : Jvm.MethodName)) ∈ tc_wA := tc_mem (i := 941) (by decide +kernel) (by decide +kernel)
theorem tw_942 : (Jvm.Cond.code ({ cls := "TwinConsoleModel", name := "goOn", desc := "(I)V" } : Jvm.MethodName) prog_9_method_41_code (2 : Nat) (Option.none : Option Jvm.ClassFile.FieldType)) ∈ tc_wA := tc_mem (i := 942) (by decide +kernel) (by decide +kernel)
theorem tw_987 : (Jvm.Cond.methodLink "TwinConsoleModel" (318 : Nat) ({ cls := "TwinConsoleModel", name := "step", desc := "()I" } : Jvm.MethodName)) ∈ tc_wA := tc_mem (i := 987) (by decide +kernel) (by decide +kernel)
theorem tw_789 : (Jvm.Cond.selects "TwinConsoleModel" ({ cls := "TwinConsoleModel", name := "step", desc := "()I" } : Jvm.MethodName) ({ cls := "TwinConsoleModel", name := "step", desc := "()I" } : Jvm.MethodName)) ∈ tc_wA := tc_mem (i := 789) (by decide +kernel) (by decide +kernel)
theorem tw_788 : (Jvm.Cond.instanceMethod ({ cls := "TwinConsoleModel", name := "step", desc := "()I" } : Jvm.MethodName)) ∈ tc_wA := tc_mem (i := 788) (by decide +kernel) (by decide +kernel)
theorem tw_790 : (Jvm.Cond.code ({ cls := "TwinConsoleModel", name := "step", desc := "()I" } : Jvm.MethodName) prog_9_method_54_code (2 : Nat) (Option.some Jvm.ClassFile.FieldType.int)) ∈ tc_wA := tc_mem (i := 790) (by decide +kernel) (by decide +kernel)
theorem ts_XM_setMaskAndFlags : (Jvm.Cond.selects "TwinConsole$MainProcessor" ({ cls := "TwinConsole$MainProcessor", name := "setMaskAndFlags", desc := "(I)V" } : Jvm.MethodName) ({ cls := "TwinConsole$MainProcessor", name := "setMaskAndFlags", desc := "(I)V" } : Jvm.MethodName)) ∈ tc_wA := tc_mem_s (by decide +kernel) (by decide +kernel)
theorem ts_XM_nextWord : (Jvm.Cond.selects "TwinConsole$MainProcessor" ({ cls := "TwinConsole$MainProcessor", name := "nextWord", desc := "()I" } : Jvm.MethodName) ({ cls := "TwinConsole$MainProcessor", name := "nextWord", desc := "()I" } : Jvm.MethodName)) ∈ tc_wA := tc_mem_s (by decide +kernel) (by decide +kernel)
theorem ts_XP_growAddress : (Jvm.Cond.selects "TwinConsole$PictureUnit" ({ cls := "TwinConsole$PictureUnit", name := "growAddress", desc := "()V" } : Jvm.MethodName) ({ cls := "TwinConsole$PictureUnit", name := "growAddress", desc := "()V" } : Jvm.MethodName)) ∈ tc_wA := tc_mem_s (by decide +kernel) (by decide +kernel)
theorem ts_XP_storeWord : (Jvm.Cond.selects "TwinConsole$PictureUnit" ({ cls := "TwinConsole$PictureUnit", name := "storeWord", desc := "(I)V" } : Jvm.MethodName) ({ cls := "TwinConsole$PictureUnit", name := "storeWord", desc := "(I)V" } : Jvm.MethodName)) ∈ tc_wA := tc_mem_s (by decide +kernel) (by decide +kernel)
theorem ts_XP_moveLength : (Jvm.Cond.selects "TwinConsole$PictureUnit" ({ cls := "TwinConsole$PictureUnit", name := "moveLength", desc := "()I" } : Jvm.MethodName) ({ cls := "TwinConsole$PictureUnit", name := "moveLength", desc := "()I" } : Jvm.MethodName)) ∈ tc_wA := tc_mem_s (by decide +kernel) (by decide +kernel)
theorem ts_XP_endMove : (Jvm.Cond.selects "TwinConsole$PictureUnit" ({ cls := "TwinConsole$PictureUnit", name := "endMove", desc := "()V" } : Jvm.MethodName) ({ cls := "TwinConsole$PictureUnit", name := "endMove", desc := "()V" } : Jvm.MethodName)) ∈ tc_wA := tc_mem_s (by decide +kernel) (by decide +kernel)
theorem ts_XP_fill : (Jvm.Cond.selects "TwinConsole$PictureUnit" ({ cls := "TwinConsole$PictureUnit", name := "fill", desc := "(II)V" } : Jvm.MethodName) ({ cls := "TwinConsole$PictureUnit", name := "fill", desc := "(II)V" } : Jvm.MethodName)) ∈ tc_wA := tc_mem_s (by decide +kernel) (by decide +kernel)
theorem ts_XP_halfSource : (Jvm.Cond.selects "TwinConsole$PictureUnit" ({ cls := "TwinConsole$PictureUnit", name := "halfSource", desc := "()I" } : Jvm.MethodName) ({ cls := "TwinConsole$PictureUnit", name := "halfSource", desc := "()I" } : Jvm.MethodName)) ∈ tc_wA := tc_mem_s (by decide +kernel) (by decide +kernel)
theorem ts_XP_copy : (Jvm.Cond.selects "TwinConsole$PictureUnit" ({ cls := "TwinConsole$PictureUnit", name := "copy", desc := "(I)V" } : Jvm.MethodName) ({ cls := "TwinConsole$PictureUnit", name := "copy", desc := "(I)V" } : Jvm.MethodName)) ∈ tc_wA := tc_mem_s (by decide +kernel) (by decide +kernel)
theorem ts_XP_takeFirstWord : (Jvm.Cond.selects "TwinConsole$PictureUnit" ({ cls := "TwinConsole$PictureUnit", name := "takeFirstWord", desc := "(I)V" } : Jvm.MethodName) ({ cls := "TwinConsole$PictureUnit", name := "takeFirstWord", desc := "(I)V" } : Jvm.MethodName)) ∈ tc_wA := tc_mem_s (by decide +kernel) (by decide +kernel)
theorem ts_XU_writeMemory : (Jvm.Cond.selects "TwinConsole$Bus" ({ cls := "TwinConsole$Bus", name := "writeMemory", desc := "(II)V" } : Jvm.MethodName) ({ cls := "TwinConsole$Bus", name := "writeMemory", desc := "(II)V" } : Jvm.MethodName)) ∈ tc_wA := tc_mem_s (by decide +kernel) (by decide +kernel)
theorem ts_XM_setMoveFlags : (Jvm.Cond.selects "TwinConsole$MainProcessor" ({ cls := "TwinConsole$MainProcessor", name := "setMoveFlags", desc := "(I)V" } : Jvm.MethodName) ({ cls := "TwinConsole$MainProcessor", name := "setMoveFlags", desc := "(I)V" } : Jvm.MethodName)) ∈ tc_wA := tc_mem_s (by decide +kernel) (by decide +kernel)
theorem ts_XU_readStatus : (Jvm.Cond.selects "TwinConsole$Bus" ({ cls := "TwinConsole$Bus", name := "readStatus", desc := "()I" } : Jvm.MethodName) ({ cls := "TwinConsole$Bus", name := "readStatus", desc := "()I" } : Jvm.MethodName)) ∈ tc_wA := tc_mem_s (by decide +kernel) (by decide +kernel)
theorem ts_XU_readPad : (Jvm.Cond.selects "TwinConsole$Bus" ({ cls := "TwinConsole$Bus", name := "readPad", desc := "()I" } : Jvm.MethodName) ({ cls := "TwinConsole$Bus", name := "readPad", desc := "()I" } : Jvm.MethodName)) ∈ tc_wA := tc_mem_s (by decide +kernel) (by decide +kernel)
theorem ts_XM_setLowWord : (Jvm.Cond.selects "TwinConsole$MainProcessor" ({ cls := "TwinConsole$MainProcessor", name := "setLowWord", desc := "(II)V" } : Jvm.MethodName) ({ cls := "TwinConsole$MainProcessor", name := "setLowWord", desc := "(II)V" } : Jvm.MethodName)) ∈ tc_wA := tc_mem_s (by decide +kernel) (by decide +kernel)
theorem ts_XM_load : (Jvm.Cond.selects "TwinConsole$MainProcessor" ({ cls := "TwinConsole$MainProcessor", name := "load", desc := "(II)V" } : Jvm.MethodName) ({ cls := "TwinConsole$MainProcessor", name := "load", desc := "(II)V" } : Jvm.MethodName)) ∈ tc_wA := tc_mem_s (by decide +kernel) (by decide +kernel)
theorem ts_XM_moveWord : (Jvm.Cond.selects "TwinConsole$MainProcessor" ({ cls := "TwinConsole$MainProcessor", name := "moveWord", desc := "(I)I" } : Jvm.MethodName) ({ cls := "TwinConsole$MainProcessor", name := "moveWord", desc := "(I)I" } : Jvm.MethodName)) ∈ tc_wA := tc_mem_s (by decide +kernel) (by decide +kernel)
theorem ts_XM_raise : (Jvm.Cond.selects "TwinConsole$MainProcessor" ({ cls := "TwinConsole$MainProcessor", name := "raise", desc := "(I)V" } : Jvm.MethodName) ({ cls := "TwinConsole$MainProcessor", name := "raise", desc := "(I)V" } : Jvm.MethodName)) ∈ tc_wA := tc_mem_s (by decide +kernel) (by decide +kernel)
theorem ts_XM_controlMachine : (Jvm.Cond.selects "TwinConsole$MainProcessor" ({ cls := "TwinConsole$MainProcessor", name := "controlMachine", desc := "(I)I" } : Jvm.MethodName) ({ cls := "TwinConsole$MainProcessor", name := "controlMachine", desc := "(I)I" } : Jvm.MethodName)) ∈ tc_wA := tc_mem_s (by decide +kernel) (by decide +kernel)
theorem ts_XM_conditionHolds : (Jvm.Cond.selects "TwinConsole$MainProcessor" ({ cls := "TwinConsole$MainProcessor", name := "conditionHolds", desc := "(I)Z" } : Jvm.MethodName) ({ cls := "TwinConsole$MainProcessor", name := "conditionHolds", desc := "(I)Z" } : Jvm.MethodName)) ∈ tc_wA := tc_mem_s (by decide +kernel) (by decide +kernel)
theorem ts_XM_branch : (Jvm.Cond.selects "TwinConsole$MainProcessor" ({ cls := "TwinConsole$MainProcessor", name := "branch", desc := "(I)I" } : Jvm.MethodName) ({ cls := "TwinConsole$MainProcessor", name := "branch", desc := "(I)I" } : Jvm.MethodName)) ∈ tc_wA := tc_mem_s (by decide +kernel) (by decide +kernel)
theorem ts_XM_moveQuick : (Jvm.Cond.selects "TwinConsole$MainProcessor" ({ cls := "TwinConsole$MainProcessor", name := "moveQuick", desc := "(I)I" } : Jvm.MethodName) ({ cls := "TwinConsole$MainProcessor", name := "moveQuick", desc := "(I)I" } : Jvm.MethodName)) ∈ tc_wA := tc_mem_s (by decide +kernel) (by decide +kernel)
theorem ts_XM_setReckonedFlags : (Jvm.Cond.selects "TwinConsole$MainProcessor" ({ cls := "TwinConsole$MainProcessor", name := "setReckonedFlags", desc := "(IZ)V" } : Jvm.MethodName) ({ cls := "TwinConsole$MainProcessor", name := "setReckonedFlags", desc := "(IZ)V" } : Jvm.MethodName)) ∈ tc_wA := tc_mem_s (by decide +kernel) (by decide +kernel)
theorem ts_XM_compare : (Jvm.Cond.selects "TwinConsole$MainProcessor" ({ cls := "TwinConsole$MainProcessor", name := "compare", desc := "(I)I" } : Jvm.MethodName) ({ cls := "TwinConsole$MainProcessor", name := "compare", desc := "(I)I" } : Jvm.MethodName)) ∈ tc_wA := tc_mem_s (by decide +kernel) (by decide +kernel)
theorem ts_XM_add : (Jvm.Cond.selects "TwinConsole$MainProcessor" ({ cls := "TwinConsole$MainProcessor", name := "add", desc := "(I)I" } : Jvm.MethodName) ({ cls := "TwinConsole$MainProcessor", name := "add", desc := "(I)I" } : Jvm.MethodName)) ∈ tc_wA := tc_mem_s (by decide +kernel) (by decide +kernel)
theorem ts_XS_readByte : (Jvm.Cond.selects "TwinConsole$SecondProcessor" ({ cls := "TwinConsole$SecondProcessor", name := "readByte", desc := "(I)I" } : Jvm.MethodName) ({ cls := "TwinConsole$SecondProcessor", name := "readByte", desc := "(I)I" } : Jvm.MethodName)) ∈ tc_wA := tc_mem_s (by decide +kernel) (by decide +kernel)
theorem ts_XS_nextByte : (Jvm.Cond.selects "TwinConsole$SecondProcessor" ({ cls := "TwinConsole$SecondProcessor", name := "nextByte", desc := "()I" } : Jvm.MethodName) ({ cls := "TwinConsole$SecondProcessor", name := "nextByte", desc := "()I" } : Jvm.MethodName)) ∈ tc_wA := tc_mem_s (by decide +kernel) (by decide +kernel)
theorem ts_XS_branch : (Jvm.Cond.selects "TwinConsole$SecondProcessor" ({ cls := "TwinConsole$SecondProcessor", name := "branch", desc := "(I)I" } : Jvm.MethodName) ({ cls := "TwinConsole$SecondProcessor", name := "branch", desc := "(I)I" } : Jvm.MethodName)) ∈ tc_wA := tc_mem_s (by decide +kernel) (by decide +kernel)
theorem ts_XS_nextAddress : (Jvm.Cond.selects "TwinConsole$SecondProcessor" ({ cls := "TwinConsole$SecondProcessor", name := "nextAddress", desc := "()I" } : Jvm.MethodName) ({ cls := "TwinConsole$SecondProcessor", name := "nextAddress", desc := "()I" } : Jvm.MethodName)) ∈ tc_wA := tc_mem_s (by decide +kernel) (by decide +kernel)
theorem ts_XS_writeByte : (Jvm.Cond.selects "TwinConsole$SecondProcessor" ({ cls := "TwinConsole$SecondProcessor", name := "writeByte", desc := "(I)V" } : Jvm.MethodName) ({ cls := "TwinConsole$SecondProcessor", name := "writeByte", desc := "(I)V" } : Jvm.MethodName)) ∈ tc_wA := tc_mem_s (by decide +kernel) (by decide +kernel)
theorem ts_XS_count : (Jvm.Cond.selects "TwinConsole$SecondProcessor" ({ cls := "TwinConsole$SecondProcessor", name := "count", desc := "(I)I" } : Jvm.MethodName) ({ cls := "TwinConsole$SecondProcessor", name := "count", desc := "(I)I" } : Jvm.MethodName)) ∈ tc_wA := tc_mem_s (by decide +kernel) (by decide +kernel)
theorem ts_XS_instruct : (Jvm.Cond.selects "TwinConsole$SecondProcessor" ({ cls := "TwinConsole$SecondProcessor", name := "instruct", desc := "()I" } : Jvm.MethodName) ({ cls := "TwinConsole$SecondProcessor", name := "instruct", desc := "()I" } : Jvm.MethodName)) ∈ tc_wA := tc_mem_s (by decide +kernel) (by decide +kernel)
theorem ts_XB_beginHiddenLine : (Jvm.Cond.selects "TwinConsole$Beam" ({ cls := "TwinConsole$Beam", name := "beginHiddenLine", desc := "()V" } : Jvm.MethodName) ({ cls := "TwinConsole$Beam", name := "beginHiddenLine", desc := "()V" } : Jvm.MethodName)) ∈ tc_wA := tc_mem_s (by decide +kernel) (by decide +kernel)
theorem ts_XD_patternDot : (Jvm.Cond.selects "TwinConsole$Painter" ({ cls := "TwinConsole$Painter", name := "patternDot", desc := "(III)I" } : Jvm.MethodName) ({ cls := "TwinConsole$Painter", name := "patternDot", desc := "(III)I" } : Jvm.MethodName)) ∈ tc_wA := tc_mem_s (by decide +kernel) (by decide +kernel)
theorem ts_XD_drawPlane : (Jvm.Cond.selects "TwinConsole$Painter" ({ cls := "TwinConsole$Painter", name := "drawPlane", desc := "([III)V" } : Jvm.MethodName) ({ cls := "TwinConsole$Painter", name := "drawPlane", desc := "([III)V" } : Jvm.MethodName)) ∈ tc_wA := tc_mem_s (by decide +kernel) (by decide +kernel)
theorem ts_XD_isOnLine : (Jvm.Cond.selects "TwinConsole$Painter" ({ cls := "TwinConsole$Painter", name := "isOnLine", desc := "(II)Z" } : Jvm.MethodName) ({ cls := "TwinConsole$Painter", name := "isOnLine", desc := "(II)Z" } : Jvm.MethodName)) ∈ tc_wA := tc_mem_s (by decide +kernel) (by decide +kernel)
theorem ts_XD_takeSprites : (Jvm.Cond.selects "TwinConsole$Painter" ({ cls := "TwinConsole$Painter", name := "takeSprites", desc := "(I)I" } : Jvm.MethodName) ({ cls := "TwinConsole$Painter", name := "takeSprites", desc := "(I)I" } : Jvm.MethodName)) ∈ tc_wA := tc_mem_s (by decide +kernel) (by decide +kernel)
theorem ts_XD_drawSprite : (Jvm.Cond.selects "TwinConsole$Painter" ({ cls := "TwinConsole$Painter", name := "drawSprite", desc := "(II)V" } : Jvm.MethodName) ({ cls := "TwinConsole$Painter", name := "drawSprite", desc := "(II)V" } : Jvm.MethodName)) ∈ tc_wA := tc_mem_s (by decide +kernel) (by decide +kernel)
theorem ts_XD_drawSprites : (Jvm.Cond.selects "TwinConsole$Painter" ({ cls := "TwinConsole$Painter", name := "drawSprites", desc := "(I)V" } : Jvm.MethodName) ({ cls := "TwinConsole$Painter", name := "drawSprites", desc := "(I)V" } : Jvm.MethodName)) ∈ tc_wA := tc_mem_s (by decide +kernel) (by decide +kernel)
theorem ts_XB_countDown : (Jvm.Cond.selects "TwinConsole$Beam" ({ cls := "TwinConsole$Beam", name := "countDown", desc := "()V" } : Jvm.MethodName) ({ cls := "TwinConsole$Beam", name := "countDown", desc := "()V" } : Jvm.MethodName)) ∈ tc_wA := tc_mem_s (by decide +kernel) (by decide +kernel)
theorem ts_XT_oneStep : (Jvm.Cond.selects "TwinConsole" ({ cls := "TwinConsole", name := "oneStep", desc := "()I" } : Jvm.MethodName) ({ cls := "TwinConsole", name := "oneStep", desc := "()I" } : Jvm.MethodName)) ∈ tc_wA := tc_mem_s (by decide +kernel) (by decide +kernel)
theorem ts_XT_portState : (Jvm.Cond.selects "TwinConsole" ({ cls := "TwinConsole", name := "portState", desc := "(I)I" } : Jvm.MethodName) ({ cls := "TwinConsole", name := "portState", desc := "(I)I" } : Jvm.MethodName)) ∈ tc_wA := tc_mem_s (by decide +kernel) (by decide +kernel)
theorem ts_XR_isOut : (Jvm.Cond.selects "TwinConsoleModel" ({ cls := "TwinConsoleModel", name := "isOut", desc := "()Z" } : Jvm.MethodName) ({ cls := "TwinConsoleModel", name := "isOut", desc := "()Z" } : Jvm.MethodName)) ∈ tc_wA := tc_mem_s (by decide +kernel) (by decide +kernel)
theorem ts_XR_quiet : (Jvm.Cond.selects "TwinConsoleModel" ({ cls := "TwinConsoleModel", name := "quiet", desc := "(I)I" } : Jvm.MethodName) ({ cls := "TwinConsoleModel", name := "quiet", desc := "(I)I" } : Jvm.MethodName)) ∈ tc_wA := tc_mem_s (by decide +kernel) (by decide +kernel)
theorem ts_XR_setFlagWord : (Jvm.Cond.selects "TwinConsoleModel" ({ cls := "TwinConsoleModel", name := "setFlagWord", desc := "(I)V" } : Jvm.MethodName) ({ cls := "TwinConsoleModel", name := "setFlagWord", desc := "(I)V" } : Jvm.MethodName)) ∈ tc_wA := tc_mem_s (by decide +kernel) (by decide +kernel)
theorem ts_XR_fetch : (Jvm.Cond.selects "TwinConsoleModel" ({ cls := "TwinConsoleModel", name := "fetch", desc := "()I" } : Jvm.MethodName) ({ cls := "TwinConsoleModel", name := "fetch", desc := "()I" } : Jvm.MethodName)) ∈ tc_wA := tc_mem_s (by decide +kernel) (by decide +kernel)
theorem ts_XR_add : (Jvm.Cond.selects "TwinConsoleModel" ({ cls := "TwinConsoleModel", name := "add", desc := "(IIZ)I" } : Jvm.MethodName) ({ cls := "TwinConsoleModel", name := "add", desc := "(IIZ)I" } : Jvm.MethodName)) ∈ tc_wA := tc_mem_s (by decide +kernel) (by decide +kernel)
theorem ts_XR_setLow : (Jvm.Cond.selects "TwinConsoleModel" ({ cls := "TwinConsoleModel", name := "setLow", desc := "(II)V" } : Jvm.MethodName) ({ cls := "TwinConsoleModel", name := "setLow", desc := "(II)V" } : Jvm.MethodName)) ∈ tc_wA := tc_mem_s (by decide +kernel) (by decide +kernel)
theorem ts_XR_resetSecond : (Jvm.Cond.selects "TwinConsoleModel" ({ cls := "TwinConsoleModel", name := "resetSecond", desc := "(Z)V" } : Jvm.MethodName) ({ cls := "TwinConsoleModel", name := "resetSecond", desc := "(Z)V" } : Jvm.MethodName)) ∈ tc_wA := tc_mem_s (by decide +kernel) (by decide +kernel)
theorem ts_XR_length : (Jvm.Cond.selects "TwinConsoleModel" ({ cls := "TwinConsoleModel", name := "length", desc := "()I" } : Jvm.MethodName) ({ cls := "TwinConsoleModel", name := "length", desc := "()I" } : Jvm.MethodName)) ∈ tc_wA := tc_mem_s (by decide +kernel) (by decide +kernel)
theorem ts_XR_half : (Jvm.Cond.selects "TwinConsoleModel" ({ cls := "TwinConsoleModel", name := "half", desc := "()I" } : Jvm.MethodName) ({ cls := "TwinConsoleModel", name := "half", desc := "()I" } : Jvm.MethodName)) ∈ tc_wA := tc_mem_s (by decide +kernel) (by decide +kernel)
theorem ts_XR_endMove : (Jvm.Cond.selects "TwinConsoleModel" ({ cls := "TwinConsoleModel", name := "endMove", desc := "()V" } : Jvm.MethodName) ({ cls := "TwinConsoleModel", name := "endMove", desc := "()V" } : Jvm.MethodName)) ∈ tc_wA := tc_mem_s (by decide +kernel) (by decide +kernel)
theorem ts_XR_grow : (Jvm.Cond.selects "TwinConsoleModel" ({ cls := "TwinConsoleModel", name := "grow", desc := "()V" } : Jvm.MethodName) ({ cls := "TwinConsoleModel", name := "grow", desc := "()V" } : Jvm.MethodName)) ∈ tc_wA := tc_mem_s (by decide +kernel) (by decide +kernel)
theorem ts_XR_begin : (Jvm.Cond.selects "TwinConsoleModel" ({ cls := "TwinConsoleModel", name := "begin", desc := "()V" } : Jvm.MethodName) ({ cls := "TwinConsoleModel", name := "begin", desc := "()V" } : Jvm.MethodName)) ∈ tc_wA := tc_mem_s (by decide +kernel) (by decide +kernel)
theorem ts_XR_control : (Jvm.Cond.selects "TwinConsoleModel" ({ cls := "TwinConsoleModel", name := "control", desc := "(I)V" } : Jvm.MethodName) ({ cls := "TwinConsoleModel", name := "control", desc := "(I)V" } : Jvm.MethodName)) ∈ tc_wA := tc_mem_s (by decide +kernel) (by decide +kernel)
theorem ts_XR_put : (Jvm.Cond.selects "TwinConsoleModel" ({ cls := "TwinConsoleModel", name := "put", desc := "(I)V" } : Jvm.MethodName) ({ cls := "TwinConsoleModel", name := "put", desc := "(I)V" } : Jvm.MethodName)) ∈ tc_wA := tc_mem_s (by decide +kernel) (by decide +kernel)
theorem ts_XR_writeData : (Jvm.Cond.selects "TwinConsoleModel" ({ cls := "TwinConsoleModel", name := "writeData", desc := "(I)V" } : Jvm.MethodName) ({ cls := "TwinConsoleModel", name := "writeData", desc := "(I)V" } : Jvm.MethodName)) ∈ tc_wA := tc_mem_s (by decide +kernel) (by decide +kernel)
theorem ts_XR_write : (Jvm.Cond.selects "TwinConsoleModel" ({ cls := "TwinConsoleModel", name := "write", desc := "(II)V" } : Jvm.MethodName) ({ cls := "TwinConsoleModel", name := "write", desc := "(II)V" } : Jvm.MethodName)) ∈ tc_wA := tc_mem_s (by decide +kernel) (by decide +kernel)
theorem ts_XR_testWord : (Jvm.Cond.selects "TwinConsoleModel" ({ cls := "TwinConsoleModel", name := "testWord", desc := "(I)V" } : Jvm.MethodName) ({ cls := "TwinConsoleModel", name := "testWord", desc := "(I)V" } : Jvm.MethodName)) ∈ tc_wA := tc_mem_s (by decide +kernel) (by decide +kernel)
theorem ts_XR_vramWord : (Jvm.Cond.selects "TwinConsoleModel" ({ cls := "TwinConsoleModel", name := "vramWord", desc := "(I)I" } : Jvm.MethodName) ({ cls := "TwinConsoleModel", name := "vramWord", desc := "(I)I" } : Jvm.MethodName)) ∈ tc_wA := tc_mem_s (by decide +kernel) (by decide +kernel)
theorem ts_XR_readData : (Jvm.Cond.selects "TwinConsoleModel" ({ cls := "TwinConsoleModel", name := "readData", desc := "()I" } : Jvm.MethodName) ({ cls := "TwinConsoleModel", name := "readData", desc := "()I" } : Jvm.MethodName)) ∈ tc_wA := tc_mem_s (by decide +kernel) (by decide +kernel)
theorem ts_XR_status : (Jvm.Cond.selects "TwinConsoleModel" ({ cls := "TwinConsoleModel", name := "status", desc := "()I" } : Jvm.MethodName) ({ cls := "TwinConsoleModel", name := "status", desc := "()I" } : Jvm.MethodName)) ∈ tc_wA := tc_mem_s (by decide +kernel) (by decide +kernel)
theorem ts_XR_padWord : (Jvm.Cond.selects "TwinConsoleModel" ({ cls := "TwinConsoleModel", name := "padWord", desc := "()I" } : Jvm.MethodName) ({ cls := "TwinConsoleModel", name := "padWord", desc := "()I" } : Jvm.MethodName)) ∈ tc_wA := tc_mem_s (by decide +kernel) (by decide +kernel)
theorem ts_XR_read : (Jvm.Cond.selects "TwinConsoleModel" ({ cls := "TwinConsoleModel", name := "read", desc := "(I)I" } : Jvm.MethodName) ({ cls := "TwinConsoleModel", name := "read", desc := "(I)I" } : Jvm.MethodName)) ∈ tc_wA := tc_mem_s (by decide +kernel) (by decide +kernel)
theorem ts_XR_move : (Jvm.Cond.selects "TwinConsoleModel" ({ cls := "TwinConsoleModel", name := "move", desc := "(I)I" } : Jvm.MethodName) ({ cls := "TwinConsoleModel", name := "move", desc := "(I)I" } : Jvm.MethodName)) ∈ tc_wA := tc_mem_s (by decide +kernel) (by decide +kernel)
theorem ts_XR_flagWord : (Jvm.Cond.selects "TwinConsoleModel" ({ cls := "TwinConsoleModel", name := "flagWord", desc := "()I" } : Jvm.MethodName) ({ cls := "TwinConsoleModel", name := "flagWord", desc := "()I" } : Jvm.MethodName)) ∈ tc_wA := tc_mem_s (by decide +kernel) (by decide +kernel)
theorem ts_XR_exception : (Jvm.Cond.selects "TwinConsoleModel" ({ cls := "TwinConsoleModel", name := "exception", desc := "(I)V" } : Jvm.MethodName) ({ cls := "TwinConsoleModel", name := "exception", desc := "(I)V" } : Jvm.MethodName)) ∈ tc_wA := tc_mem_s (by decide +kernel) (by decide +kernel)
theorem ts_XR_holds : (Jvm.Cond.selects "TwinConsoleModel" ({ cls := "TwinConsoleModel", name := "holds", desc := "(I)Z" } : Jvm.MethodName) ({ cls := "TwinConsoleModel", name := "holds", desc := "(I)Z" } : Jvm.MethodName)) ∈ tc_wA := tc_mem_s (by decide +kernel) (by decide +kernel)
theorem ts_XR_branch : (Jvm.Cond.selects "TwinConsoleModel" ({ cls := "TwinConsoleModel", name := "branch", desc := "(I)I" } : Jvm.MethodName) ({ cls := "TwinConsoleModel", name := "branch", desc := "(I)I" } : Jvm.MethodName)) ∈ tc_wA := tc_mem_s (by decide +kernel) (by decide +kernel)
theorem ts_XR_control2 : (Jvm.Cond.selects "TwinConsoleModel" ({ cls := "TwinConsoleModel", name := "control2", desc := "(I)I" } : Jvm.MethodName) ({ cls := "TwinConsoleModel", name := "control2", desc := "(I)I" } : Jvm.MethodName)) ∈ tc_wA := tc_mem_s (by decide +kernel) (by decide +kernel)
theorem ts_XR_instruction : (Jvm.Cond.selects "TwinConsoleModel" ({ cls := "TwinConsoleModel", name := "instruction", desc := "()I" } : Jvm.MethodName) ({ cls := "TwinConsoleModel", name := "instruction", desc := "()I" } : Jvm.MethodName)) ∈ tc_wA := tc_mem_s (by decide +kernel) (by decide +kernel)
theorem ts_XR_interrupt : (Jvm.Cond.selects "TwinConsoleModel" ({ cls := "TwinConsoleModel", name := "interrupt", desc := "(I)I" } : Jvm.MethodName) ({ cls := "TwinConsoleModel", name := "interrupt", desc := "(I)I" } : Jvm.MethodName)) ∈ tc_wA := tc_mem_s (by decide +kernel) (by decide +kernel)
theorem ts_XR_moveWord : (Jvm.Cond.selects "TwinConsoleModel" ({ cls := "TwinConsoleModel", name := "moveWord", desc := "()V" } : Jvm.MethodName) ({ cls := "TwinConsoleModel", name := "moveWord", desc := "()V" } : Jvm.MethodName)) ∈ tc_wA := tc_mem_s (by decide +kernel) (by decide +kernel)
theorem ts_XR_mainStep : (Jvm.Cond.selects "TwinConsoleModel" ({ cls := "TwinConsoleModel", name := "mainStep", desc := "()I" } : Jvm.MethodName) ({ cls := "TwinConsoleModel", name := "mainStep", desc := "()I" } : Jvm.MethodName)) ∈ tc_wA := tc_mem_s (by decide +kernel) (by decide +kernel)
theorem ts_XR_load : (Jvm.Cond.selects "TwinConsoleModel" ({ cls := "TwinConsoleModel", name := "load", desc := "(I)I" } : Jvm.MethodName) ({ cls := "TwinConsoleModel", name := "load", desc := "(I)I" } : Jvm.MethodName)) ∈ tc_wA := tc_mem_s (by decide +kernel) (by decide +kernel)
theorem ts_XR_next : (Jvm.Cond.selects "TwinConsoleModel" ({ cls := "TwinConsoleModel", name := "next", desc := "()I" } : Jvm.MethodName) ({ cls := "TwinConsoleModel", name := "next", desc := "()I" } : Jvm.MethodName)) ∈ tc_wA := tc_mem_s (by decide +kernel) (by decide +kernel)
theorem ts_XR_pair : (Jvm.Cond.selects "TwinConsoleModel" ({ cls := "TwinConsoleModel", name := "pair", desc := "()I" } : Jvm.MethodName) ({ cls := "TwinConsoleModel", name := "pair", desc := "()I" } : Jvm.MethodName)) ∈ tc_wA := tc_mem_s (by decide +kernel) (by decide +kernel)
theorem ts_XR_becomes : (Jvm.Cond.selects "TwinConsoleModel" ({ cls := "TwinConsoleModel", name := "becomes", desc := "(I)V" } : Jvm.MethodName) ({ cls := "TwinConsoleModel", name := "becomes", desc := "(I)V" } : Jvm.MethodName)) ∈ tc_wA := tc_mem_s (by decide +kernel) (by decide +kernel)
theorem ts_XR_second : (Jvm.Cond.selects "TwinConsoleModel" ({ cls := "TwinConsoleModel", name := "second", desc := "()I" } : Jvm.MethodName) ({ cls := "TwinConsoleModel", name := "second", desc := "()I" } : Jvm.MethodName)) ∈ tc_wA := tc_mem_s (by decide +kernel) (by decide +kernel)
theorem ts_XR_give : (Jvm.Cond.selects "TwinConsoleModel" ({ cls := "TwinConsoleModel", name := "give", desc := "(I)V" } : Jvm.MethodName) ({ cls := "TwinConsoleModel", name := "give", desc := "(I)V" } : Jvm.MethodName)) ∈ tc_wA := tc_mem_s (by decide +kernel) (by decide +kernel)
theorem ts_XR_tellSecond : (Jvm.Cond.selects "TwinConsoleModel" ({ cls := "TwinConsoleModel", name := "tellSecond", desc := "()V" } : Jvm.MethodName) ({ cls := "TwinConsoleModel", name := "tellSecond", desc := "()V" } : Jvm.MethodName)) ∈ tc_wA := tc_mem_s (by decide +kernel) (by decide +kernel)
theorem ts_XR_spriteWord : (Jvm.Cond.selects "TwinConsoleModel" ({ cls := "TwinConsoleModel", name := "spriteWord", desc := "(II)I" } : Jvm.MethodName) ({ cls := "TwinConsoleModel", name := "spriteWord", desc := "(II)I" } : Jvm.MethodName)) ∈ tc_wA := tc_mem_s (by decide +kernel) (by decide +kernel)
theorem ts_XR_patternPixel : (Jvm.Cond.selects "TwinConsoleModel" ({ cls := "TwinConsoleModel", name := "patternPixel", desc := "(III)I" } : Jvm.MethodName) ({ cls := "TwinConsoleModel", name := "patternPixel", desc := "(III)I" } : Jvm.MethodName)) ∈ tc_wA := tc_mem_s (by decide +kernel) (by decide +kernel)
theorem ts_XR_spritePixel : (Jvm.Cond.selects "TwinConsoleModel" ({ cls := "TwinConsoleModel", name := "spritePixel", desc := "(II)I" } : Jvm.MethodName) ({ cls := "TwinConsoleModel", name := "spritePixel", desc := "(II)I" } : Jvm.MethodName)) ∈ tc_wA := tc_mem_s (by decide +kernel) (by decide +kernel)
theorem ts_XR_spriteAt : (Jvm.Cond.selects "TwinConsoleModel" ({ cls := "TwinConsoleModel", name := "spriteAt", desc := "(I)I" } : Jvm.MethodName) ({ cls := "TwinConsoleModel", name := "spriteAt", desc := "(I)I" } : Jvm.MethodName)) ∈ tc_wA := tc_mem_s (by decide +kernel) (by decide +kernel)
theorem ts_XR_planePixel : (Jvm.Cond.selects "TwinConsoleModel" ({ cls := "TwinConsoleModel", name := "planePixel", desc := "(III)I" } : Jvm.MethodName) ({ cls := "TwinConsoleModel", name := "planePixel", desc := "(III)I" } : Jvm.MethodName)) ∈ tc_wA := tc_mem_s (by decide +kernel) (by decide +kernel)
theorem ts_XR_plane : (Jvm.Cond.selects "TwinConsoleModel" ({ cls := "TwinConsoleModel", name := "plane", desc := "(II)I" } : Jvm.MethodName) ({ cls := "TwinConsoleModel", name := "plane", desc := "(II)I" } : Jvm.MethodName)) ∈ tc_wA := tc_mem_s (by decide +kernel) (by decide +kernel)
theorem ts_XR_takeSprites : (Jvm.Cond.selects "TwinConsoleModel" ({ cls := "TwinConsoleModel", name := "takeSprites", desc := "()V" } : Jvm.MethodName) ({ cls := "TwinConsoleModel", name := "takeSprites", desc := "()V" } : Jvm.MethodName)) ∈ tc_wA := tc_mem_s (by decide +kernel) (by decide +kernel)
theorem ts_XR_draw : (Jvm.Cond.selects "TwinConsoleModel" ({ cls := "TwinConsoleModel", name := "draw", desc := "()V" } : Jvm.MethodName) ({ cls := "TwinConsoleModel", name := "draw", desc := "()V" } : Jvm.MethodName)) ∈ tc_wA := tc_mem_s (by decide +kernel) (by decide +kernel)
theorem ts_XR_beginLine : (Jvm.Cond.selects "TwinConsoleModel" ({ cls := "TwinConsoleModel", name := "beginLine", desc := "()V" } : Jvm.MethodName) ({ cls := "TwinConsoleModel", name := "beginLine", desc := "()V" } : Jvm.MethodName)) ∈ tc_wA := tc_mem_s (by decide +kernel) (by decide +kernel)
theorem ts_XR_goOn : (Jvm.Cond.selects "TwinConsoleModel" ({ cls := "TwinConsoleModel", name := "goOn", desc := "(I)V" } : Jvm.MethodName) ({ cls := "TwinConsoleModel", name := "goOn", desc := "(I)V" } : Jvm.MethodName)) ∈ tc_wA := tc_mem_s (by decide +kernel) (by decide +kernel)
theorem tv_XM_17 : tc_V RXM 17 yXM_setMaskAndFlags cXM_setMaskAndFlags 2 none 1 := ⟨tw_301, tw_303, ts_XM_setMaskAndFlags, tw_7, tw_304, ⟨by decide, by decide, by decide +kernel⟩⟩
theorem tv_XU_32 : tc_V RXU 32 yXS_stands cXS_stands 1 (some .boolean) 0 := ⟨tw_309, tw_310, tw_311, tw_2, tw_312, ⟨by decide, by decide, by decide +kernel⟩⟩
theorem tv_XM_21 : tc_V RXM 21 yXU_readQuietly cXU_readQuietly 2 (some .int) 1 := ⟨tw_305, tw_306, tw_307, tw_6, tw_308, ⟨by decide, by decide, by decide +kernel⟩⟩
theorem tv_XT_66 : tc_V RXT 66 yXM_startAgain cXM_startAgain 2 none 0 := ⟨tw_297, tw_298, tw_299, tw_7, tw_300, ⟨by decide, by decide, by decide +kernel⟩⟩
theorem tv_XT_157 : tc_V RXT 157 yXB_highestPending cXB_highestPending 2 (some .int) 1 := ⟨tw_325, tw_326, tw_327, tw_5, tw_328, ⟨by decide, by decide, by decide +kernel⟩⟩
theorem tv_XT_97 : tc_V RXT 97 yXP_movesFromMemory cXP_movesFromMemory 1 (some .boolean) 0 := ⟨tw_329, tw_330, tw_331, tw_3, tw_332, ⟨by decide, by decide, by decide +kernel⟩⟩
theorem tv_XT_170 : tc_V RXT 170 yXS_takeMainLate cXS_takeMainLate 2 (some .int) 0 := ⟨tw_414, tw_415, tw_416, tw_2, tw_417, ⟨by decide, by decide, by decide +kernel⟩⟩
theorem tv_XM_56 : tc_V RXM 56 yXM_nextWord cXM_nextWord 2 (some .int) 0 := ⟨tw_422, tw_424, ts_XM_nextWord, tw_7, tw_425, ⟨by decide, by decide, by decide +kernel⟩⟩
theorem tv_XP_67 : tc_V RXP 67 yXP_growAddress cXP_growAddress 1 none 0 := ⟨tw_346, tw_348, ts_XP_growAddress, tw_3, tw_349, ⟨by decide, by decide, by decide +kernel⟩⟩
theorem tv_XP_56 : tc_V RXP 56 yXP_storeWord cXP_storeWord 3 none 1 := ⟨tw_342, tw_344, ts_XP_storeWord, tw_3, tw_345, ⟨by decide, by decide, by decide +kernel⟩⟩
theorem tv_XP_43 : tc_V RXP 43 yXP_moveLength cXP_moveLength 2 (some .int) 0 := ⟨tw_381, tw_383, ts_XP_moveLength, tw_3, tw_384, ⟨by decide, by decide, by decide +kernel⟩⟩
theorem tv_XP_71 : tc_V RXP 71 yXP_endMove cXP_endMove 1 none 0 := ⟨tw_352, tw_354, ts_XP_endMove, tw_3, tw_355, ⟨by decide, by decide, by decide +kernel⟩⟩
theorem tv_XP_59 : tc_V RXP 59 yXP_fill cXP_fill 4 none 2 := ⟨tw_385, tw_387, ts_XP_fill, tw_3, tw_388, ⟨by decide, by decide, by decide +kernel⟩⟩
theorem tv_XU_68 : tc_V RXU 68 yXP_writeData cXP_writeData 2 none 1 := ⟨tw_377, tw_378, tw_379, tw_3, tw_380, ⟨by decide, by decide, by decide +kernel⟩⟩
theorem tv_XP_50 : tc_V RXP 50 yXP_halfSource cXP_halfSource 1 (some .int) 0 := ⟨tw_402, tw_404, ts_XP_halfSource, tw_3, tw_405, ⟨by decide, by decide, by decide +kernel⟩⟩
theorem tv_XP_47 : tc_V RXP 47 yXP_copy cXP_copy 4 none 1 := ⟨tw_398, tw_400, ts_XP_copy, tw_3, tw_401, ⟨by decide, by decide, by decide +kernel⟩⟩
theorem tv_XP_30 : tc_V RXP 30 yXP_takeFirstWord cXP_takeFirstWord 2 none 1 := ⟨tw_393, tw_395, ts_XP_takeFirstWord, tw_3, tw_396, ⟨by decide, by decide, by decide +kernel⟩⟩
theorem tv_XU_72 : tc_V RXU 72 yXP_writeControl cXP_writeControl 2 none 1 := ⟨tw_389, tw_390, tw_391, tw_3, tw_392, ⟨by decide, by decide, by decide +kernel⟩⟩
theorem tv_XU_75 : tc_V RXU 75 yXS_setReset cXS_setReset 2 none 1 := ⟨tw_406, tw_407, tw_408, tw_2, tw_409, ⟨by decide, by decide, by decide +kernel⟩⟩
theorem tv_XU_82 : tc_V RXU 82 yXU_writeMemory cXU_writeMemory 3 none 2 := ⟨tw_410, tw_412, ts_XU_writeMemory, tw_6, tw_413, ⟨by decide, by decide, by decide +kernel⟩⟩
theorem tv_XM_82 : tc_V RXM 82 yXU_write cXU_write 3 none 2 := ⟨tw_373, tw_374, tw_375, tw_6, tw_376, ⟨by decide, by decide, by decide +kernel⟩⟩
theorem tv_XM_86 : tc_V RXM 86 yXM_setMoveFlags cXM_setMoveFlags 2 none 1 := ⟨tw_439, tw_441, ts_XM_setMoveFlags, tw_7, tw_442, ⟨by decide, by decide, by decide +kernel⟩⟩
theorem tv_XP_63 : tc_V RXP 63 yXP_vramWord cXP_vramWord 3 (some .int) 1 := ⟨tw_451, tw_452, tw_453, tw_3, tw_454, ⟨by decide, by decide, by decide +kernel⟩⟩
theorem tv_XU_39 : tc_V RXU 39 yXP_readData cXP_readData 3 (some .int) 0 := ⟨tw_447, tw_448, tw_449, tw_3, tw_450, ⟨by decide, by decide, by decide +kernel⟩⟩
theorem tv_XU_95 : tc_V RXU 95 yXP_movesFromMemory cXP_movesFromMemory 1 (some .boolean) 0 := ⟨tw_459, tw_330, tw_331, tw_3, tw_332, ⟨by decide, by decide, by decide +kernel⟩⟩
theorem tv_XU_45 : tc_V RXU 45 yXU_readStatus cXU_readStatus 2 (some .int) 0 := ⟨tw_455, tw_457, ts_XU_readStatus, tw_6, tw_458, ⟨by decide, by decide, by decide +kernel⟩⟩
theorem tv_XU_61 : tc_V RXU 61 yXU_readPad cXU_readPad 1 (some .int) 0 := ⟨tw_460, tw_462, ts_XU_readPad, tw_6, tw_463, ⟨by decide, by decide, by decide +kernel⟩⟩
theorem tv_XU_64 : tc_V RXU 64 yXU_readQuietly cXU_readQuietly 2 (some .int) 1 := ⟨tw_337, tw_306, tw_307, tw_6, tw_308, ⟨by decide, by decide, by decide +kernel⟩⟩
theorem tv_XM_93 : tc_V RXM 93 yXU_read cXU_read 2 (some .int) 1 := ⟨tw_443, tw_444, tw_445, tw_6, tw_446, ⟨by decide, by decide, by decide +kernel⟩⟩
theorem tv_XM_97 : tc_V RXM 97 yXM_setLowWord cXM_setLowWord 3 none 2 := ⟨tw_434, tw_436, ts_XM_setLowWord, tw_7, tw_437, ⟨by decide, by decide, by decide +kernel⟩⟩
theorem tv_XM_90 : tc_V RXM 90 yXM_load cXM_load 3 none 2 := ⟨tw_430, tw_432, ts_XM_load, tw_7, tw_433, ⟨by decide, by decide, by decide +kernel⟩⟩
theorem tv_XM_60 : tc_V RXM 60 yXM_moveWord cXM_moveWord 5 (some .int) 1 := ⟨tw_426, tw_428, ts_XM_moveWord, tw_7, tw_429, ⟨by decide, by decide, by decide +kernel⟩⟩
theorem tv_XM_79 : tc_V RXM 79 yXM_maskAndFlags cXM_maskAndFlags 1 (some .int) 0 := ⟨tw_369, tw_370, tw_371, tw_7, tw_372, ⟨by decide, by decide, by decide +kernel⟩⟩
theorem tv_XM_53 : tc_V RXM 53 yXM_raise cXM_raise 2 none 1 := ⟨tw_364, tw_366, ts_XM_raise, tw_7, tw_367, ⟨by decide, by decide, by decide +kernel⟩⟩
theorem tv_XM_63 : tc_V RXM 63 yXM_controlMachine cXM_controlMachine 2 (some .int) 1 := ⟨tw_465, tw_467, ts_XM_controlMachine, tw_7, tw_468, ⟨by decide, by decide, by decide +kernel⟩⟩
theorem tv_XM_104 : tc_V RXM 104 yXM_conditionHolds cXM_conditionHolds 2 (some .boolean) 1 := ⟨tw_473, tw_475, ts_XM_conditionHolds, tw_7, tw_476, ⟨by decide, by decide, by decide +kernel⟩⟩
theorem tv_XM_66 : tc_V RXM 66 yXM_branch cXM_branch 3 (some .int) 1 := ⟨tw_469, tw_471, ts_XM_branch, tw_7, tw_472, ⟨by decide, by decide, by decide +kernel⟩⟩
theorem tv_XM_69 : tc_V RXM 69 yXM_moveQuick cXM_moveQuick 3 (some .int) 1 := ⟨tw_477, tw_479, ts_XM_moveQuick, tw_7, tw_480, ⟨by decide, by decide, by decide +kernel⟩⟩
theorem tv_XM_100 : tc_V RXM 100 yXM_setReckonedFlags cXM_setReckonedFlags 3 none 2 := ⟨tw_485, tw_487, ts_XM_setReckonedFlags, tw_7, tw_488, ⟨by decide, by decide, by decide +kernel⟩⟩
theorem tv_XM_72 : tc_V RXM 72 yXM_compare cXM_compare 4 (some .int) 1 := ⟨tw_481, tw_483, ts_XM_compare, tw_7, tw_484, ⟨by decide, by decide, by decide +kernel⟩⟩
theorem tv_XM_75 : tc_V RXM 75 yXM_add cXM_add 6 (some .int) 1 := ⟨tw_489, tw_491, ts_XM_add, tw_7, tw_492, ⟨by decide, by decide, by decide +kernel⟩⟩
theorem tv_XT_173 : tc_V RXT 173 yXM_instruct cXM_instruct 4 (some .int) 0 := ⟨tw_418, tw_419, tw_420, tw_7, tw_421, ⟨by decide, by decide, by decide +kernel⟩⟩
theorem tv_XS_51 : tc_V RXS 51 yXS_stands cXS_stands 1 (some .boolean) 0 := ⟨tw_497, tw_310, tw_311, tw_2, tw_312, ⟨by decide, by decide, by decide +kernel⟩⟩
theorem tv_XS_69 : tc_V RXS 69 yXS_readByte cXS_readByte 3 (some .int) 1 := ⟨tw_506, tw_508, ts_XS_readByte, tw_2, tw_509, ⟨by decide, by decide, by decide +kernel⟩⟩
theorem tv_XS_59 : tc_V RXS 59 yXS_nextByte cXS_nextByte 2 (some .int) 0 := ⟨tw_502, tw_504, ts_XS_nextByte, tw_2, tw_505, ⟨by decide, by decide, by decide +kernel⟩⟩
theorem tv_XS_73 : tc_V RXS 73 yXS_branch cXS_branch 2 (some .int) 1 := ⟨tw_520, tw_522, ts_XS_branch, tw_2, tw_523, ⟨by decide, by decide, by decide +kernel⟩⟩
theorem tv_XS_62 : tc_V RXS 62 yXS_nextAddress cXS_nextAddress 2 (some .int) 0 := ⟨tw_512, tw_514, ts_XS_nextAddress, tw_2, tw_515, ⟨by decide, by decide, by decide +kernel⟩⟩
theorem tv_XS_65 : tc_V RXS 65 yXS_writeByte cXS_writeByte 2 none 1 := ⟨tw_516, tw_518, ts_XS_writeByte, tw_2, tw_519, ⟨by decide, by decide, by decide +kernel⟩⟩
theorem tv_XS_76 : tc_V RXS 76 yXS_count cXS_count 2 (some .int) 1 := ⟨tw_524, tw_526, ts_XS_count, tw_2, tw_527, ⟨by decide, by decide, by decide +kernel⟩⟩
theorem tv_XS_55 : tc_V RXS 55 yXS_instruct cXS_instruct 1 (some .int) 0 := ⟨tw_498, tw_500, ts_XS_instruct, tw_2, tw_501, ⟨by decide, by decide, by decide +kernel⟩⟩
theorem tv_XT_176 : tc_V RXT 176 yXS_give cXS_give 4 none 1 := ⟨tw_493, tw_494, tw_495, tw_2, tw_496, ⟨by decide, by decide, by decide +kernel⟩⟩
theorem tv_XB_56 : tc_V RXB 56 yXS_tellLine8 cXS_tellLine8 1 none 0 := ⟨tw_573, tw_574, tw_575, tw_2, tw_576, ⟨by decide, by decide, by decide +kernel⟩⟩
theorem tv_XB_44 : tc_V RXB 44 yXB_beginHiddenLine cXB_beginHiddenLine 1 none 0 := ⟨tw_569, tw_571, ts_XB_beginHiddenLine, tw_5, tw_572, ⟨by decide, by decide, by decide +kernel⟩⟩
theorem tv_XD_43 : tc_St RXD 43 yXD_foremost cXD_foremost 3 (some .int) 3 := ⟨tw_562, tw_563, tw_4, tw_564, ⟨by decide, by decide, by decide +kernel⟩⟩
theorem tv_XD_47 : tc_V RXD 47 yXP_vramWord cXP_vramWord 3 (some .int) 1 := ⟨tw_540, tw_452, tw_453, tw_3, tw_454, ⟨by decide, by decide, by decide +kernel⟩⟩
theorem tv_XD_54 : tc_V RXD 54 yXD_patternDot cXD_patternDot 7 (some .int) 3 := ⟨tw_541, tw_543, ts_XD_patternDot, tw_4, tw_544, ⟨by decide, by decide, by decide +kernel⟩⟩
theorem tv_XD_35 : tc_V RXD 35 yXD_drawPlane cXD_drawPlane 13 none 3 := ⟨tw_536, tw_538, ts_XD_drawPlane, tw_4, tw_539, ⟨by decide, by decide, by decide +kernel⟩⟩
theorem tv_XD_65 : tc_V RXD 65 yXD_isOnLine cXD_isOnLine 4 (some .boolean) 2 := ⟨tw_554, tw_556, ts_XD_isOnLine, tw_4, tw_557, ⟨by decide, by decide, by decide +kernel⟩⟩
theorem tv_XD_58 : tc_V RXD 58 yXD_takeSprites cXD_takeSprites 7 (some .int) 1 := ⟨tw_550, tw_552, ts_XD_takeSprites, tw_4, tw_553, ⟨by decide, by decide, by decide +kernel⟩⟩
theorem tv_XD_61 : tc_V RXD 61 yXD_drawSprite cXD_drawSprite 9 none 2 := ⟨tw_558, tw_560, ts_XD_drawSprite, tw_4, tw_561, ⟨by decide, by decide, by decide +kernel⟩⟩
theorem tv_XD_39 : tc_V RXD 39 yXD_drawSprites cXD_drawSprites 4 none 1 := ⟨tw_546, tw_548, ts_XD_drawSprites, tw_4, tw_549, ⟨by decide, by decide, by decide +kernel⟩⟩
theorem tv_XB_37 : tc_V RXB 37 yXD_draw cXD_draw 6 none 1 := ⟨tw_532, tw_533, tw_534, tw_4, tw_535, ⟨by decide, by decide, by decide +kernel⟩⟩
theorem tv_XB_41 : tc_V RXB 41 yXB_countDown cXB_countDown 1 none 0 := ⟨tw_565, tw_567, ts_XB_countDown, tw_5, tw_568, ⟨by decide, by decide, by decide +kernel⟩⟩
theorem tv_XT_179 : tc_V RXT 179 yXB_goOn cXB_goOn 4 none 1 := ⟨tw_528, tw_529, tw_530, tw_5, tw_531, ⟨by decide, by decide, by decide +kernel⟩⟩
theorem tv_XT_163 : tc_V RXT 163 yXB_takePending cXB_takePending 2 none 1 := ⟨tw_356, tw_357, tw_358, tw_5, tw_359, ⟨by decide, by decide, by decide +kernel⟩⟩
theorem tv_XT_167 : tc_V RXT 167 yXM_interrupt cXM_interrupt 2 (some .int) 1 := ⟨tw_360, tw_361, tw_362, tw_7, tw_363, ⟨by decide, by decide, by decide +kernel⟩⟩
theorem tv_XU_89 : tc_V RXU 89 yXP_takeMovedWord cXP_takeMovedWord 2 none 1 := ⟨tw_338, tw_339, tw_340, tw_3, tw_341, ⟨by decide, by decide, by decide +kernel⟩⟩
theorem tv_XT_160 : tc_V RXT 160 yXU_moveWord cXU_moveWord 2 none 0 := ⟨tw_333, tw_334, tw_335, tw_6, tw_336, ⟨by decide, by decide, by decide +kernel⟩⟩
theorem tv_XT_73 : tc_V RXT 73 yXT_oneStep cXT_oneStep 4 (some .int) 0 := ⟨tw_321, tw_323, ts_XT_oneStep, tw_1, tw_324, ⟨by decide, by decide, by decide +kernel⟩⟩
theorem tv_XT_77 : tc_V RXT 77 yXU_readQuietly cXU_readQuietly 2 (some .int) 1 := ⟨tw_585, tw_306, tw_307, tw_6, tw_308, ⟨by decide, by decide, by decide +kernel⟩⟩
theorem tv_XT_90 : tc_V RXT 90 yXM_maskAndFlags cXM_maskAndFlags 1 (some .int) 0 := ⟨tw_590, tw_370, tw_371, tw_7, tw_372, ⟨by decide, by decide, by decide +kernel⟩⟩
theorem tv_XT_111 : tc_V RXT 111 yXS_stateBits cXS_stateBits 1 (some .int) 0 := ⟨tw_591, tw_592, tw_593, tw_2, tw_594, ⟨by decide, by decide, by decide +kernel⟩⟩
theorem tv_XT_117 : tc_V RXT 117 yXP_vramWord cXP_vramWord 3 (some .int) 1 := ⟨tw_603, tw_452, tw_453, tw_3, tw_454, ⟨by decide, by decide, by decide +kernel⟩⟩
theorem tv_XT_123 : tc_St RXT 123 yXT_elementOrNone cXT_elementOrNone 2 (some .int) 2 := ⟨tw_604, tw_605, tw_1, tw_606, ⟨by decide, by decide, by decide +kernel⟩⟩
theorem tv_XT_133 : tc_V RXT 133 yXT_portState cXT_portState 2 (some .int) 1 := ⟨tw_607, tw_609, ts_XT_portState, tw_1, tw_610, ⟨by decide, by decide, by decide +kernel⟩⟩
theorem tv_XR_47 : tc_V RXR 47 yXR_isOut cXR_isOut 1 (some .boolean) 0 := ⟨tw_775, tw_777, ts_XR_isOut, tw_8, tw_778, ⟨by decide, by decide, by decide +kernel⟩⟩
theorem tv_XR_76 : tc_V RXR 76 yXR_quiet cXR_quiet 2 (some .int) 1 := ⟨tw_771, tw_773, ts_XR_quiet, tw_8, tw_774, ⟨by decide, by decide, by decide +kernel⟩⟩
theorem tv_XR_217 : tc_V RXR 217 yXR_setFlagWord cXR_setFlagWord 2 none 1 := ⟨tw_779, tw_781, ts_XR_setFlagWord, tw_8, tw_782, ⟨by decide, by decide, by decide +kernel⟩⟩
theorem tv_XR_205 : tc_V RXR 205 yXR_fetch cXR_fetch 2 (some .int) 0 := ⟨tw_857, tw_859, ts_XR_fetch, tw_8, tw_860, ⟨by decide, by decide, by decide +kernel⟩⟩
theorem tv_XR_212 : tc_V RXR 212 yXR_add cXR_add 7 (some .int) 3 := ⟨tw_898, tw_900, ts_XR_add, tw_8, tw_901, ⟨by decide, by decide, by decide +kernel⟩⟩
theorem tv_XR_199 : tc_V RXR 199 yXR_setLow cXR_setLow 3 none 2 := ⟨tw_867, tw_869, ts_XR_setLow, tw_8, tw_870, ⟨by decide, by decide, by decide +kernel⟩⟩
theorem tv_XR_100 : tc_V RXR 100 yXR_resetSecond cXR_resetSecond 2 none 1 := ⟨tw_849, tw_851, ts_XR_resetSecond, tw_8, tw_852, ⟨by decide, by decide, by decide +kernel⟩⟩
theorem tv_XR_147 : tc_V RXR 147 yXR_length cXR_length 2 (some .int) 0 := ⟨tw_832, tw_834, ts_XR_length, tw_8, tw_835, ⟨by decide, by decide, by decide +kernel⟩⟩
theorem tv_XR_153 : tc_V RXR 153 yXR_half cXR_half 1 (some .int) 0 := ⟨tw_844, tw_846, ts_XR_half, tw_8, tw_847, ⟨by decide, by decide, by decide +kernel⟩⟩
theorem tv_XR_150 : tc_V RXR 150 yXR_endMove cXR_endMove 1 none 0 := ⟨tw_808, tw_810, ts_XR_endMove, tw_8, tw_811, ⟨by decide, by decide, by decide +kernel⟩⟩
theorem tv_XR_138 : tc_V RXR 138 yXR_grow cXR_grow 1 none 0 := ⟨tw_803, tw_805, ts_XR_grow, tw_8, tw_806, ⟨by decide, by decide, by decide +kernel⟩⟩
theorem tv_XR_159 : tc_V RXR 159 yXR_begin cXR_begin 5 none 0 := ⟨tw_840, tw_842, ts_XR_begin, tw_8, tw_843, ⟨by decide, by decide, by decide +kernel⟩⟩
theorem tv_XR_97 : tc_V RXR 97 yXR_control cXR_control 2 none 1 := ⟨tw_836, tw_838, ts_XR_control, tw_8, tw_839, ⟨by decide, by decide, by decide +kernel⟩⟩
theorem tv_XR_141 : tc_V RXR 141 yXR_put cXR_put 5 none 1 := ⟨tw_799, tw_801, ts_XR_put, tw_8, tw_802, ⟨by decide, by decide, by decide +kernel⟩⟩
theorem tv_XR_93 : tc_V RXR 93 yXR_writeData cXR_writeData 4 none 1 := ⟨tw_828, tw_830, ts_XR_writeData, tw_8, tw_831, ⟨by decide, by decide, by decide +kernel⟩⟩
theorem tv_XR_189 : tc_V RXR 189 yXR_write cXR_write 3 none 2 := ⟨tw_824, tw_826, ts_XR_write, tw_8, tw_827, ⟨by decide, by decide, by decide +kernel⟩⟩
theorem tv_XR_202 : tc_V RXR 202 yXR_testWord cXR_testWord 2 none 1 := ⟨tw_872, tw_874, ts_XR_testWord, tw_8, tw_875, ⟨by decide, by decide, by decide +kernel⟩⟩
theorem tv_XR_135 : tc_V RXR 135 yXR_vramWord cXR_vramWord 2 (some .int) 1 := ⟨tw_885, tw_887, ts_XR_vramWord, tw_8, tw_888, ⟨by decide, by decide, by decide +kernel⟩⟩
theorem tv_XR_80 : tc_V RXR 80 yXR_readData cXR_readData 4 (some .int) 0 := ⟨tw_881, tw_883, ts_XR_readData, tw_8, tw_884, ⟨by decide, by decide, by decide +kernel⟩⟩
theorem tv_XR_84 : tc_V RXR 84 yXR_status cXR_status 2 (some .int) 0 := ⟨tw_889, tw_891, ts_XR_status, tw_8, tw_892, ⟨by decide, by decide, by decide +kernel⟩⟩
theorem tv_XR_90 : tc_V RXR 90 yXR_padWord cXR_padWord 2 (some .int) 0 := ⟨tw_893, tw_895, ts_XR_padWord, tw_8, tw_896, ⟨by decide, by decide, by decide +kernel⟩⟩
theorem tv_XR_208 : tc_V RXR 208 yXR_read cXR_read 2 (some .int) 1 := ⟨tw_877, tw_879, ts_XR_read, tw_8, tw_880, ⟨by decide, by decide, by decide +kernel⟩⟩
theorem tv_XR_226 : tc_V RXR 226 yXR_move cXR_move 6 (some .int) 1 := ⟨tw_861, tw_863, ts_XR_move, tw_8, tw_864, ⟨by decide, by decide, by decide +kernel⟩⟩
theorem tv_XR_186 : tc_V RXR 186 yXR_flagWord cXR_flagWord 1 (some .int) 0 := ⟨tw_820, tw_822, ts_XR_flagWord, tw_8, tw_823, ⟨by decide, by decide, by decide +kernel⟩⟩
theorem tv_XR_232 : tc_V RXR 232 yXR_exception cXR_exception 2 none 1 := ⟨tw_816, tw_818, ts_XR_exception, tw_8, tw_819, ⟨by decide, by decide, by decide +kernel⟩⟩
theorem tv_XR_193 : tc_V RXR 193 yXR_holds cXR_holds 2 (some .boolean) 1 := ⟨tw_911, tw_913, ts_XR_holds, tw_8, tw_914, ⟨by decide, by decide, by decide +kernel⟩⟩
theorem tv_XR_223 : tc_V RXR 223 yXR_branch cXR_branch 4 (some .int) 1 := ⟨tw_907, tw_909, ts_XR_branch, tw_8, tw_910, ⟨by decide, by decide, by decide +kernel⟩⟩
theorem tv_XR_229 : tc_V RXR 229 yXR_control2 cXR_control2 3 (some .int) 1 := ⟨tw_903, tw_905, ts_XR_control2, tw_8, tw_906, ⟨by decide, by decide, by decide +kernel⟩⟩
theorem tv_XR_250 : tc_V RXR 250 yXR_instruction cXR_instruction 3 (some .int) 0 := ⟨tw_853, tw_855, ts_XR_instruction, tw_8, tw_856, ⟨by decide, by decide, by decide +kernel⟩⟩
theorem tv_XR_238 : tc_V RXR 238 yXR_interrupt cXR_interrupt 2 (some .int) 1 := ⟨tw_812, tw_814, ts_XR_interrupt, tw_8, tw_815, ⟨by decide, by decide, by decide +kernel⟩⟩
theorem tv_XR_235 : tc_V RXR 235 yXR_moveWord cXR_moveWord 1 none 0 := ⟨tw_795, tw_797, ts_XR_moveWord, tw_8, tw_798, ⟨by decide, by decide, by decide +kernel⟩⟩
theorem tv_XR_309 : tc_V RXR 309 yXR_mainStep cXR_mainStep 1 (some .int) 0 := ⟨tw_791, tw_793, ts_XR_mainStep, tw_8, tw_794, ⟨by decide, by decide, by decide +kernel⟩⟩
theorem tv_XR_256 : tc_V RXR 256 yXR_load cXR_load 2 (some .int) 1 := ⟨tw_927, tw_929, ts_XR_load, tw_8, tw_930, ⟨by decide, by decide, by decide +kernel⟩⟩
theorem tv_XR_259 : tc_V RXR 259 yXR_next cXR_next 2 (some .int) 0 := ⟨tw_923, tw_925, ts_XR_next, tw_8, tw_926, ⟨by decide, by decide, by decide +kernel⟩⟩
theorem tv_XR_265 : tc_V RXR 265 yXR_pair cXR_pair 2 (some .int) 0 := ⟨tw_935, tw_937, ts_XR_pair, tw_8, tw_938, ⟨by decide, by decide, by decide +kernel⟩⟩
theorem tv_XR_262 : tc_V RXR 262 yXR_becomes cXR_becomes 2 none 1 := ⟨tw_931, tw_933, ts_XR_becomes, tw_8, tw_934, ⟨by decide, by decide, by decide +kernel⟩⟩
theorem tv_XR_268 : tc_V RXR 268 yXR_second cXR_second 4 (some .int) 0 := ⟨tw_919, tw_921, ts_XR_second, tw_8, tw_922, ⟨by decide, by decide, by decide +kernel⟩⟩
theorem tv_XR_312 : tc_V RXR 312 yXR_give cXR_give 3 none 1 := ⟨tw_915, tw_917, ts_XR_give, tw_8, tw_918, ⟨by decide, by decide, by decide +kernel⟩⟩
theorem tv_XR_280 : tc_V RXR 280 yXR_tellSecond cXR_tellSecond 1 none 0 := ⟨tw_979, tw_981, ts_XR_tellSecond, tw_8, tw_982, ⟨by decide, by decide, by decide +kernel⟩⟩
theorem tv_XR_293 : tc_V RXR 293 yXR_spriteWord cXR_spriteWord 3 (some .int) 2 := ⟨tw_955, tw_957, ts_XR_spriteWord, tw_8, tw_958, ⟨by decide, by decide, by decide +kernel⟩⟩
theorem tv_XR_283 : tc_V RXR 283 yXR_patternPixel cXR_patternPixel 7 (some .int) 3 := ⟨tw_967, tw_969, ts_XR_patternPixel, tw_8, tw_970, ⟨by decide, by decide, by decide +kernel⟩⟩
theorem tv_XR_297 : tc_V RXR 297 yXR_spritePixel cXR_spritePixel 5 (some .int) 2 := ⟨tw_963, tw_965, ts_XR_spritePixel, tw_8, tw_966, ⟨by decide, by decide, by decide +kernel⟩⟩
theorem tv_XR_303 : tc_V RXR 303 yXR_spriteAt cXR_spriteAt 5 (some .int) 1 := ⟨tw_959, tw_961, ts_XR_spriteAt, tw_8, tw_962, ⟨by decide, by decide, by decide +kernel⟩⟩
theorem tv_XR_287 : tc_V RXR 287 yXR_planePixel cXR_planePixel 4 (some .int) 3 := ⟨tw_975, tw_977, ts_XR_planePixel, tw_8, tw_978, ⟨by decide, by decide, by decide +kernel⟩⟩
theorem tv_XR_306 : tc_V RXR 306 yXR_plane cXR_plane 5 (some .int) 2 := ⟨tw_971, tw_973, ts_XR_plane, tw_8, tw_974, ⟨by decide, by decide, by decide +kernel⟩⟩
theorem tv_XR_300 : tc_V RXR 300 yXR_takeSprites cXR_takeSprites 6 none 0 := ⟨tw_951, tw_953, ts_XR_takeSprites, tw_8, tw_954, ⟨by decide, by decide, by decide +kernel⟩⟩
theorem tv_XR_274 : tc_V RXR 274 yXR_draw cXR_draw 8 none 0 := ⟨tw_947, tw_949, ts_XR_draw, tw_8, tw_950, ⟨by decide, by decide, by decide +kernel⟩⟩
theorem tv_XR_271 : tc_V RXR 271 yXR_beginLine cXR_beginLine 1 none 0 := ⟨tw_943, tw_945, ts_XR_beginLine, tw_8, tw_946, ⟨by decide, by decide, by decide +kernel⟩⟩
theorem tv_XR_315 : tc_V RXR 315 yXR_goOn cXR_goOn 2 none 1 := ⟨tw_939, tw_941, ts_XR_goOn, tw_8, tw_942, ⟨by decide, by decide, by decide +kernel⟩⟩
theorem tv_XR_318 : tc_V RXR 318 yXR_step cXR_step 2 (some .int) 0 := ⟨tw_987, tw_788, tw_789, tw_8, tw_790, ⟨by decide, by decide, by decide +kernel⟩⟩
end
section
def tc_cW (ad : Nat → Nat) (cA : ClassId) (σ : tc_S) : va_W := [(ad 0, .inr (0, [.ref (ad 7), .ref (ad 2), .ref (ad 3), .ref (ad 5), .ref (ad 4), .ref (ad 6), .ref (ad 1)])),
  (ad 1, .inr (1, [.ref (ad 6), .ref (ad 9), .int (tc_gf σ 0), .int (tc_gf σ 1), .int (tc_gf σ 2), .int (tc_gf σ 3), .int (tc_gf σ 4), .int (tc_gf σ 5), .int (tc_gf σ 6), .int (tc_gf σ 7)])),
  (ad 2, .inr (2, [.ref (ad 7), .ref (ad 10), .int (tc_gf σ 8), .int (tc_gf σ 9), .int (tc_gf σ 10), .int (tc_gf σ 11), .int (tc_gf σ 12), .int (tc_gf σ 13), .int (tc_gf σ 14), .int (tc_gf σ 15), .int (tc_gf σ 16), .int (tc_gf σ 17), .int (tc_gf σ 18)])),
  (ad 3, .inr (3, [.ref (ad 11), .ref (ad 12), .ref (ad 13), .ref (ad 14), .int (tc_gf σ 19), .int (tc_gf σ 20), .int (tc_gf σ 21), .int (tc_gf σ 22), .int (tc_gf σ 23), .int (tc_gf σ 24)])),
  (ad 4, .inr (4, [.ref (ad 3), .ref (ad 5), .ref (ad 2), .int (tc_gf σ 27), .int (tc_gf σ 28), .int (tc_gf σ 29), .int (tc_gf σ 30), .int (tc_gf σ 31)])),
  (ad 5, .inr (5, [.ref (ad 3), .ref (ad 14), .ref (ad 15), .ref (ad 16), .ref (ad 17), .ref (ad 18), .ref (ad 19), .int (tc_gf σ 25), .int (tc_gf σ 26)])),
  (ad 6, .inr (6, [.ref (ad 7), .ref (ad 8), .ref (ad 2), .ref (ad 3), .ref (ad 5), .ref (ad 4), .int (tc_gf σ 32), .int (tc_gf σ 33)])),
  (ad 7, .inl (cA, 256, .inl (σ.2 7))),
  (ad 8, .inl (cA, 64, .inl (σ.2 8))),
  (ad 9, .inl (cA, 8, .inl (σ.2 0))),
  (ad 10, .inl (cA, 128, .inl (σ.2 1))),
  (ad 11, .inl (cA, 1024, .inl (σ.2 2))),
  (ad 12, .inl (cA, 16, .inl (σ.2 3))),
  (ad 13, .inl (cA, 2, .inl (σ.2 4))),
  (ad 14, .inl (cA, 16, .inl (σ.2 5))),
  (ad 15, .inl (cA, 128, .inl (σ.2 6))),
  (ad 16, .inl (cA, 16, .inl (σ.2 9))),
  (ad 17, .inl (cA, 16, .inl (σ.2 10))),
  (ad 18, .inl (cA, 16, .inl (σ.2 11))),
  (ad 19, .inl (cA, 3, .inl (σ.2 12)))]
def tc_rW (ad : Nat → Nat) (cA : ClassId) (σ : tc_S) : va_W := [(ad 0, .inr (7, [.ref (ad 1), .ref (ad 2), .ref (ad 3), .int (tc_gf σ 0), .int (tc_gf σ 1), .int (tc_gf σ 2), .int (tc_gf σ 3), .int (tc_gf σ 4), .int (tc_gf σ 5), .int (tc_gf σ 6), .int (tc_gf σ 7), .int (tc_gf σ 18), .int (tc_gf σ 34), .int (tc_gf σ 30), .int (tc_gf σ 31), .int (tc_gf σ 32), .int (tc_gf σ 33), .ref (ad 4), .int (tc_gf σ 8), .int (tc_gf σ 9), .int (tc_gf σ 10), .int (tc_gf σ 11), .int (tc_gf σ 12), .int (tc_gf σ 13), .int (tc_gf σ 14), .int (tc_gf σ 15), .int (tc_gf σ 16), .int (tc_gf σ 17), .int (tc_gf σ 35), .ref (ad 5), .ref (ad 6), .ref (ad 7), .ref (ad 8), .int (tc_gf σ 19), .int (tc_gf σ 20), .int (tc_gf σ 21), .int (tc_gf σ 22), .int (tc_gf σ 23), .int (tc_gf σ 24), .int (tc_gf σ 25), .int (tc_gf σ 26), .int (tc_gf σ 27), .int (tc_gf σ 28), .int (tc_gf σ 29), .ref (ad 9), .int (tc_gf σ 36), .ref (ad 10)])),
  (ad 1, .inl (cA, 512, .inl (σ.2 7))),
  (ad 2, .inl (cA, 128, .inl (σ.2 8))),
  (ad 3, .inl (cA, 8, .inl (σ.2 0))),
  (ad 4, .inl (cA, 128, .inl (σ.2 1))),
  (ad 5, .inl (cA, 1024, .inl (σ.2 2))),
  (ad 6, .inl (cA, 16, .inl (σ.2 3))),
  (ad 7, .inl (cA, 2, .inl (σ.2 4))),
  (ad 8, .inl (cA, 16, .inl (σ.2 5))),
  (ad 9, .inl (cA, 128, .inl (σ.2 6))),
  (ad 10, .inl (cA, 3, .inl (σ.2 12)))]
section TCW
variable {p : Program} {l : Launch} {e : Env} {R : Room} {s : State} {m : MethodId} {args : Array Value} {below : List Frame} {meth : Method} {c : Code} {H H0 : Heap} {locs : List Loc} {cells slots : Nat} {Q : State → Prop} {own : String} {cc : ByteArray} {nL : Nat} {ret : Option FieldType} {D : va_G} {cA : ClassId} {A : Nat → Prop} {ad : Nat → Nat} {σ : tc_S} {pc index : Nat} {ls : Array Slot} {rest : List Value} {i v : Int32}
theorem tc_cr_XT_romWords (C : tc_C p s m args meth c own cc nL ret D cA) (hP : va_P D vwCl (tc_cW ad cA σ) H) (hw : (Cond.fieldLink own index "TwinConsole" "romWords" "[I").before args s = true) (hdg : decode cc pc = .ok (.getfield index, 3)) (kk : W p l e R s m args below meth c H locs cells slots Q (F0 m (pc + 3) ls (.ref (ad 7) :: rest))) : W p l e R s m args below meth c H locs cells slots Q (F0 m pc ls (.ref (ad 0) :: rest)) := by
  obtain ⟨hx, hb, hml, hown, ⟨hK, hN⟩, hr, hlk⟩ := C
  exact va_get (D := D) (ci := 0) (v := .ref (ad 7)) (C := RXT) (T := TXT) (N := 7) hx hb (tc_ht hN tc_in_XT) (fun _ h => h) hown hK hP 0 rfl rfl 0 (by decide) hw (fun _ h9 => h9) rfl hdg kk
theorem tc_cal7 (C : tc_C p s m args meth c own cc nL ret D cA) (hP : va_P D vwCl (tc_cW ad cA σ) H) (hdg : decode cc pc = .ok (.arraylength, 1)) (kk : W p l e R s m args below meth c H locs cells slots Q (F0 m (pc + 1) ls (.int 256 :: rest))) : W p l e R s m args below meth c H locs cells slots Q (F0 m pc ls (.ref (ad 7) :: rest)) := by
  obtain ⟨hx, hb, hml, hown, ⟨hK, hN⟩, hr, hlk⟩ := C
  exact va_alen (v := 256) hx hb hK hP 7 0 rfl rfl rfl hdg kk
theorem tc_cst7 (C : tc_C p s m args meth c own cc nL ret D cA) (hJ : ∀ σ, va_D A (tc_cW ad cA σ)) (hP : va_P D vwCl (tc_cW ad cA σ) H) (hS : va_S A H0 H locs) (hi : vp_in i 256) (hdg : decode cc pc = .ok (.iastore, 1)) (kk : ∀ (H1 : Heap) (locs1 : List Loc), va_P D vwCl (tc_cW ad cA (tc_sa σ 7 i v)) H1 → va_S A H0 H1 locs1 → W p l e R s m args below meth c H1 locs1 cells slots Q (F0 m (pc + 1) ls rest)) : W p l e R s m args below meth c H locs cells slots Q (F0 m pc ls (.int v :: .int i :: .ref (ad 7) :: rest)) := by
  obtain ⟨hx, hb, hml, hown, ⟨hK, hN⟩, hr, hlk⟩ := C
  exact va_iast hx hb hK hP (hJ σ) hS 7 0 rfl rfl hi hdg (fun H1 locs1 h1 _ h3 => kk H1 locs1 h1 h3)
theorem tc_cr_XT_main (C : tc_C p s m args meth c own cc nL ret D cA) (hP : va_P D vwCl (tc_cW ad cA σ) H) (hw : (Cond.fieldLink own index "TwinConsole" "main" "LTwinConsole$MainProcessor;").before args s = true) (hdg : decode cc pc = .ok (.getfield index, 3)) (kk : W p l e R s m args below meth c H locs cells slots Q (F0 m (pc + 3) ls (.ref (ad 1) :: rest))) : W p l e R s m args below meth c H locs cells slots Q (F0 m pc ls (.ref (ad 0) :: rest)) := by
  obtain ⟨hx, hb, hml, hown, ⟨hK, hN⟩, hr, hlk⟩ := C
  exact va_get (D := D) (ci := 0) (v := .ref (ad 1)) (C := RXT) (T := TXT) (N := 7) hx hb (tc_ht hN tc_in_XT) (fun _ h => h) hown hK hP 0 rfl rfl 6 (by decide) hw (fun _ h9 => h9) rfl hdg kk
theorem tc_cr_XM_d (C : tc_C p s m args meth c own cc nL ret D cA) (hP : va_P D vwCl (tc_cW ad cA σ) H) (hw : (Cond.fieldLink own index "TwinConsole$MainProcessor" "d" "[I").before args s = true) (hdg : decode cc pc = .ok (.getfield index, 3)) (kk : W p l e R s m args below meth c H locs cells slots Q (F0 m (pc + 3) ls (.ref (ad 9) :: rest))) : W p l e R s m args below meth c H locs cells slots Q (F0 m pc ls (.ref (ad 1) :: rest)) := by
  obtain ⟨hx, hb, hml, hown, ⟨hK, hN⟩, hr, hlk⟩ := C
  exact va_get (D := D) (ci := 1) (v := .ref (ad 9)) (C := RXM) (T := TXM) (N := 10) hx hb (tc_ht hN tc_in_XM) (fun _ h => h) hown hK hP 1 rfl rfl 1 (by decide) hw (fun _ h9 => h9) rfl hdg kk
theorem tc_cal9 (C : tc_C p s m args meth c own cc nL ret D cA) (hP : va_P D vwCl (tc_cW ad cA σ) H) (hdg : decode cc pc = .ok (.arraylength, 1)) (kk : W p l e R s m args below meth c H locs cells slots Q (F0 m (pc + 1) ls (.int 8 :: rest))) : W p l e R s m args below meth c H locs cells slots Q (F0 m pc ls (.ref (ad 9) :: rest)) := by
  obtain ⟨hx, hb, hml, hown, ⟨hK, hN⟩, hr, hlk⟩ := C
  exact va_alen (v := 8) hx hb hK hP 9 0 rfl rfl rfl hdg kk
theorem tc_cp2 (C : tc_C p s m args meth c own cc nL ret D cA) (hJ : ∀ σ, va_D A (tc_cW ad cA σ)) (hP : va_P D vwCl (tc_cW ad cA σ) H) (hS : va_S A H0 H locs) (hw : (Cond.fieldLink own index "TwinConsole$MainProcessor" "mask" "I").before args s = true) (hdg : decode cc pc = .ok (.putfield index, 3)) (kk : ∀ (H1 : Heap) (locs1 : List Loc), va_P D vwCl (tc_cW ad cA (tc_sf σ 2 v)) H1 → va_S A H0 H1 locs1 → W p l e R s m args below meth c H1 locs1 cells slots Q (F0 m (pc + 3) ls rest)) : W p l e R s m args below meth c H locs cells slots Q (F0 m pc ls (.int v :: .ref (ad 1) :: rest)) := by
  obtain ⟨hx, hb, hml, hown, ⟨hK, hN⟩, hr, hlk⟩ := C
  exact va_put (D := D) (ci := 1) (v := .int v) (ty := .int) (C := RXM) (T := TXM) (N := 10) hx hb (tc_ht hN tc_in_XM) (fun _ h => h) tyXM tyXM_ok nmXM hown hK hP (hJ σ) hS 1 rfl rfl 4 (by decide) hw (fun _ h9 => h9) rfl (by decide +kernel) rfl rfl (Nat.le_of_ble_eq_true rfl) hdg (fun H1 locs1 h1 _ h3 => kk H1 locs1 h1 h3)
theorem tc_cp3 (C : tc_C p s m args meth c own cc nL ret D cA) (hJ : ∀ σ, va_D A (tc_cW ad cA σ)) (hP : va_P D vwCl (tc_cW ad cA σ) H) (hS : va_S A H0 H locs) (hw : (Cond.fieldLink own index "TwinConsole$MainProcessor" "negative" "Z").before args s = true) (hz : narrow .boolean (.int v) = .int v ∧ fits .boolean (.int v) = true) (hdg : decode cc pc = .ok (.putfield index, 3)) (kk : ∀ (H1 : Heap) (locs1 : List Loc), va_P D vwCl (tc_cW ad cA (tc_sf σ 3 v)) H1 → va_S A H0 H1 locs1 → W p l e R s m args below meth c H1 locs1 cells slots Q (F0 m (pc + 3) ls rest)) : W p l e R s m args below meth c H locs cells slots Q (F0 m pc ls (.int v :: .ref (ad 1) :: rest)) := by
  obtain ⟨hx, hb, hml, hown, ⟨hK, hN⟩, hr, hlk⟩ := C
  exact va_put (D := D) (ci := 1) (v := .int v) (ty := .boolean) (C := RXM) (T := TXM) (N := 10) hx hb (tc_ht hN tc_in_XM) (fun _ h => h) tyXM tyXM_ok nmXM hown hK hP (hJ σ) hS 1 rfl rfl 5 (by decide) hw (fun _ h9 => h9) rfl (by decide +kernel) hz.1 hz.2 (Nat.le_of_ble_eq_true rfl) hdg (fun H1 locs1 h1 _ h3 => kk H1 locs1 h1 h3)
theorem tc_cp4 (C : tc_C p s m args meth c own cc nL ret D cA) (hJ : ∀ σ, va_D A (tc_cW ad cA σ)) (hP : va_P D vwCl (tc_cW ad cA σ) H) (hS : va_S A H0 H locs) (hw : (Cond.fieldLink own index "TwinConsole$MainProcessor" "zero" "Z").before args s = true) (hz : narrow .boolean (.int v) = .int v ∧ fits .boolean (.int v) = true) (hdg : decode cc pc = .ok (.putfield index, 3)) (kk : ∀ (H1 : Heap) (locs1 : List Loc), va_P D vwCl (tc_cW ad cA (tc_sf σ 4 v)) H1 → va_S A H0 H1 locs1 → W p l e R s m args below meth c H1 locs1 cells slots Q (F0 m (pc + 3) ls rest)) : W p l e R s m args below meth c H locs cells slots Q (F0 m pc ls (.int v :: .ref (ad 1) :: rest)) := by
  obtain ⟨hx, hb, hml, hown, ⟨hK, hN⟩, hr, hlk⟩ := C
  exact va_put (D := D) (ci := 1) (v := .int v) (ty := .boolean) (C := RXM) (T := TXM) (N := 10) hx hb (tc_ht hN tc_in_XM) (fun _ h => h) tyXM tyXM_ok nmXM hown hK hP (hJ σ) hS 1 rfl rfl 6 (by decide) hw (fun _ h9 => h9) rfl (by decide +kernel) hz.1 hz.2 (Nat.le_of_ble_eq_true rfl) hdg (fun H1 locs1 h1 _ h3 => kk H1 locs1 h1 h3)
theorem tc_cp5 (C : tc_C p s m args meth c own cc nL ret D cA) (hJ : ∀ σ, va_D A (tc_cW ad cA σ)) (hP : va_P D vwCl (tc_cW ad cA σ) H) (hS : va_S A H0 H locs) (hw : (Cond.fieldLink own index "TwinConsole$MainProcessor" "overflow" "Z").before args s = true) (hz : narrow .boolean (.int v) = .int v ∧ fits .boolean (.int v) = true) (hdg : decode cc pc = .ok (.putfield index, 3)) (kk : ∀ (H1 : Heap) (locs1 : List Loc), va_P D vwCl (tc_cW ad cA (tc_sf σ 5 v)) H1 → va_S A H0 H1 locs1 → W p l e R s m args below meth c H1 locs1 cells slots Q (F0 m (pc + 3) ls rest)) : W p l e R s m args below meth c H locs cells slots Q (F0 m pc ls (.int v :: .ref (ad 1) :: rest)) := by
  obtain ⟨hx, hb, hml, hown, ⟨hK, hN⟩, hr, hlk⟩ := C
  exact va_put (D := D) (ci := 1) (v := .int v) (ty := .boolean) (C := RXM) (T := TXM) (N := 10) hx hb (tc_ht hN tc_in_XM) (fun _ h => h) tyXM tyXM_ok nmXM hown hK hP (hJ σ) hS 1 rfl rfl 7 (by decide) hw (fun _ h9 => h9) rfl (by decide +kernel) hz.1 hz.2 (Nat.le_of_ble_eq_true rfl) hdg (fun H1 locs1 h1 _ h3 => kk H1 locs1 h1 h3)
theorem tc_cp6 (C : tc_C p s m args meth c own cc nL ret D cA) (hJ : ∀ σ, va_D A (tc_cW ad cA σ)) (hP : va_P D vwCl (tc_cW ad cA σ) H) (hS : va_S A H0 H locs) (hw : (Cond.fieldLink own index "TwinConsole$MainProcessor" "carry" "Z").before args s = true) (hz : narrow .boolean (.int v) = .int v ∧ fits .boolean (.int v) = true) (hdg : decode cc pc = .ok (.putfield index, 3)) (kk : ∀ (H1 : Heap) (locs1 : List Loc), va_P D vwCl (tc_cW ad cA (tc_sf σ 6 v)) H1 → va_S A H0 H1 locs1 → W p l e R s m args below meth c H1 locs1 cells slots Q (F0 m (pc + 3) ls rest)) : W p l e R s m args below meth c H locs cells slots Q (F0 m pc ls (.int v :: .ref (ad 1) :: rest)) := by
  obtain ⟨hx, hb, hml, hown, ⟨hK, hN⟩, hr, hlk⟩ := C
  exact va_put (D := D) (ci := 1) (v := .int v) (ty := .boolean) (C := RXM) (T := TXM) (N := 10) hx hb (tc_ht hN tc_in_XM) (fun _ h => h) tyXM tyXM_ok nmXM hown hK hP (hJ σ) hS 1 rfl rfl 8 (by decide) hw (fun _ h9 => h9) rfl (by decide +kernel) hz.1 hz.2 (Nat.le_of_ble_eq_true rfl) hdg (fun H1 locs1 h1 _ h3 => kk H1 locs1 h1 h3)
theorem tc_cr_XM_bus (C : tc_C p s m args meth c own cc nL ret D cA) (hP : va_P D vwCl (tc_cW ad cA σ) H) (hw : (Cond.fieldLink own index "TwinConsole$MainProcessor" "bus" "LTwinConsole$Bus;").before args s = true) (hdg : decode cc pc = .ok (.getfield index, 3)) (kk : W p l e R s m args below meth c H locs cells slots Q (F0 m (pc + 3) ls (.ref (ad 6) :: rest))) : W p l e R s m args below meth c H locs cells slots Q (F0 m pc ls (.ref (ad 1) :: rest)) := by
  obtain ⟨hx, hb, hml, hown, ⟨hK, hN⟩, hr, hlk⟩ := C
  exact va_get (D := D) (ci := 1) (v := .ref (ad 6)) (C := RXM) (T := TXM) (N := 10) hx hb (tc_ht hN tc_in_XM) (fun _ h => h) hown hK hP 1 rfl rfl 0 (by decide) hw (fun _ h9 => h9) rfl hdg kk
theorem tc_cr_XU_second (C : tc_C p s m args meth c own cc nL ret D cA) (hP : va_P D vwCl (tc_cW ad cA σ) H) (hw : (Cond.fieldLink own index "TwinConsole$Bus" "second" "LTwinConsole$SecondProcessor;").before args s = true) (hdg : decode cc pc = .ok (.getfield index, 3)) (kk : W p l e R s m args below meth c H locs cells slots Q (F0 m (pc + 3) ls (.ref (ad 2) :: rest))) : W p l e R s m args below meth c H locs cells slots Q (F0 m pc ls (.ref (ad 6) :: rest)) := by
  obtain ⟨hx, hb, hml, hown, ⟨hK, hN⟩, hr, hlk⟩ := C
  exact va_get (D := D) (ci := 6) (v := .ref (ad 2)) (C := RXU) (T := TXU) (N := 8) hx hb (tc_ht hN tc_in_XU) (fun _ h => h) hown hK hP 6 rfl rfl 2 (by decide) hw (fun _ h9 => h9) rfl hdg kk
theorem tc_cg15 (C : tc_C p s m args meth c own cc nL ret D cA) (hP : va_P D vwCl (tc_cW ad cA σ) H) (hw : (Cond.fieldLink own index "TwinConsole$SecondProcessor" "held" "Z").before args s = true) (hdg : decode cc pc = .ok (.getfield index, 3)) (kk : W p l e R s m args below meth c H locs cells slots Q (F0 m (pc + 3) ls (.int (tc_gf σ 15) :: rest))) : W p l e R s m args below meth c H locs cells slots Q (F0 m pc ls (.ref (ad 2) :: rest)) := by
  obtain ⟨hx, hb, hml, hown, ⟨hK, hN⟩, hr, hlk⟩ := C
  exact va_get (D := D) (ci := 2) (v := .int (tc_gf σ 15)) (C := RXS) (T := TXS) (N := 13) hx hb (tc_ht hN tc_in_XS) (fun _ h => h) hown hK hP 2 rfl rfl 9 (by decide) hw (fun _ h9 => h9) rfl hdg kk
theorem tc_cg16 (C : tc_C p s m args meth c own cc nL ret D cA) (hP : va_P D vwCl (tc_cW ad cA σ) H) (hw : (Cond.fieldLink own index "TwinConsole$SecondProcessor" "inReset" "Z").before args s = true) (hdg : decode cc pc = .ok (.getfield index, 3)) (kk : W p l e R s m args below meth c H locs cells slots Q (F0 m (pc + 3) ls (.int (tc_gf σ 16) :: rest))) : W p l e R s m args below meth c H locs cells slots Q (F0 m pc ls (.ref (ad 2) :: rest)) := by
  obtain ⟨hx, hb, hml, hown, ⟨hK, hN⟩, hr, hlk⟩ := C
  exact va_get (D := D) (ci := 2) (v := .int (tc_gf σ 16)) (C := RXS) (T := TXS) (N := 13) hx hb (tc_ht hN tc_in_XS) (fun _ h => h) hown hK hP 2 rfl rfl 10 (by decide) hw (fun _ h9 => h9) rfl hdg kk
theorem tc_crN_XS_ram (C : tc_C p s m args meth c own cc nL ret D cA) (hP : va_P D vwCl (tc_cW ad cA σ) H) (hw : (Cond.fieldLinkNest own index "TwinConsole$SecondProcessor" "ram" "[I" "TwinConsole").before args s = true) (hdg : decode cc pc = .ok (.getfield index, 3)) (kk : W p l e R s m args below meth c H locs cells slots Q (F0 m (pc + 3) ls (.ref (ad 10) :: rest))) : W p l e R s m args below meth c H locs cells slots Q (F0 m pc ls (.ref (ad 2) :: rest)) := by
  obtain ⟨hx, hb, hml, hown, ⟨hK, hN⟩, hr, hlk⟩ := C
  exact va_getN (D := D) (ci := 2) (v := .ref (ad 10)) (C := RXS) (T := TXS) (N := 13) hx hb (tc_ht hN tc_in_XS) (fun _ h => h) hown hK hP 2 rfl rfl 1 (by decide) hw (fun _ h9 => h9) rfl hdg kk
theorem tc_cld10 (C : tc_C p s m args meth c own cc nL ret D cA) (hP : va_P D vwCl (tc_cW ad cA σ) H) (hi : vp_in i 128) (hdg : decode cc pc = .ok (.iaload, 1)) (kk : W p l e R s m args below meth c H locs cells slots Q (F0 m (pc + 1) ls (.int (tc_ga σ 1 i) :: rest))) : W p l e R s m args below meth c H locs cells slots Q (F0 m pc ls (.int i :: .ref (ad 10) :: rest)) := by
  obtain ⟨hx, hb, hml, hown, ⟨hK, hN⟩, hr, hlk⟩ := C
  exact va_iald hx hb hK hP 10 0 rfl rfl hi hdg kk
theorem tc_cr_XU_ram (C : tc_C p s m args meth c own cc nL ret D cA) (hP : va_P D vwCl (tc_cW ad cA σ) H) (hw : (Cond.fieldLink own index "TwinConsole$Bus" "ram" "[I").before args s = true) (hdg : decode cc pc = .ok (.getfield index, 3)) (kk : W p l e R s m args below meth c H locs cells slots Q (F0 m (pc + 3) ls (.ref (ad 8) :: rest))) : W p l e R s m args below meth c H locs cells slots Q (F0 m pc ls (.ref (ad 6) :: rest)) := by
  obtain ⟨hx, hb, hml, hown, ⟨hK, hN⟩, hr, hlk⟩ := C
  exact va_get (D := D) (ci := 6) (v := .ref (ad 8)) (C := RXU) (T := TXU) (N := 8) hx hb (tc_ht hN tc_in_XU) (fun _ h => h) hown hK hP 6 rfl rfl 1 (by decide) hw (fun _ h9 => h9) rfl hdg kk
theorem tc_cld8 (C : tc_C p s m args meth c own cc nL ret D cA) (hP : va_P D vwCl (tc_cW ad cA σ) H) (hi : vp_in i 64) (hdg : decode cc pc = .ok (.iaload, 1)) (kk : W p l e R s m args below meth c H locs cells slots Q (F0 m (pc + 1) ls (.int (tc_ga σ 8 i) :: rest))) : W p l e R s m args below meth c H locs cells slots Q (F0 m pc ls (.int i :: .ref (ad 8) :: rest)) := by
  obtain ⟨hx, hb, hml, hown, ⟨hK, hN⟩, hr, hlk⟩ := C
  exact va_iald hx hb hK hP 8 0 rfl rfl hi hdg kk
theorem tc_cr_XU_romWords (C : tc_C p s m args meth c own cc nL ret D cA) (hP : va_P D vwCl (tc_cW ad cA σ) H) (hw : (Cond.fieldLink own index "TwinConsole$Bus" "romWords" "[I").before args s = true) (hdg : decode cc pc = .ok (.getfield index, 3)) (kk : W p l e R s m args below meth c H locs cells slots Q (F0 m (pc + 3) ls (.ref (ad 7) :: rest))) : W p l e R s m args below meth c H locs cells slots Q (F0 m pc ls (.ref (ad 6) :: rest)) := by
  obtain ⟨hx, hb, hml, hown, ⟨hK, hN⟩, hr, hlk⟩ := C
  exact va_get (D := D) (ci := 6) (v := .ref (ad 7)) (C := RXU) (T := TXU) (N := 8) hx hb (tc_ht hN tc_in_XU) (fun _ h => h) hown hK hP 6 rfl rfl 0 (by decide) hw (fun _ h9 => h9) rfl hdg kk
theorem tc_cld7 (C : tc_C p s m args meth c own cc nL ret D cA) (hP : va_P D vwCl (tc_cW ad cA σ) H) (hi : vp_in i 256) (hdg : decode cc pc = .ok (.iaload, 1)) (kk : W p l e R s m args below meth c H locs cells slots Q (F0 m (pc + 1) ls (.int (tc_ga σ 7 i) :: rest))) : W p l e R s m args below meth c H locs cells slots Q (F0 m pc ls (.int i :: .ref (ad 7) :: rest)) := by
  obtain ⟨hx, hb, hml, hown, ⟨hK, hN⟩, hr, hlk⟩ := C
  exact va_iald hx hb hK hP 7 0 rfl rfl hi hdg kk
theorem tc_cp0 (C : tc_C p s m args meth c own cc nL ret D cA) (hJ : ∀ σ, va_D A (tc_cW ad cA σ)) (hP : va_P D vwCl (tc_cW ad cA σ) H) (hS : va_S A H0 H locs) (hw : (Cond.fieldLink own index "TwinConsole$MainProcessor" "s" "I").before args s = true) (hdg : decode cc pc = .ok (.putfield index, 3)) (kk : ∀ (H1 : Heap) (locs1 : List Loc), va_P D vwCl (tc_cW ad cA (tc_sf σ 0 v)) H1 → va_S A H0 H1 locs1 → W p l e R s m args below meth c H1 locs1 cells slots Q (F0 m (pc + 3) ls rest)) : W p l e R s m args below meth c H locs cells slots Q (F0 m pc ls (.int v :: .ref (ad 1) :: rest)) := by
  obtain ⟨hx, hb, hml, hown, ⟨hK, hN⟩, hr, hlk⟩ := C
  exact va_put (D := D) (ci := 1) (v := .int v) (ty := .int) (C := RXM) (T := TXM) (N := 10) hx hb (tc_ht hN tc_in_XM) (fun _ h => h) tyXM tyXM_ok nmXM hown hK hP (hJ σ) hS 1 rfl rfl 2 (by decide) hw (fun _ h9 => h9) rfl (by decide +kernel) rfl rfl (Nat.le_of_ble_eq_true rfl) hdg (fun H1 locs1 h1 _ h3 => kk H1 locs1 h1 h3)
theorem tc_cp1 (C : tc_C p s m args meth c own cc nL ret D cA) (hJ : ∀ σ, va_D A (tc_cW ad cA σ)) (hP : va_P D vwCl (tc_cW ad cA σ) H) (hS : va_S A H0 H locs) (hw : (Cond.fieldLink own index "TwinConsole$MainProcessor" "pc" "I").before args s = true) (hdg : decode cc pc = .ok (.putfield index, 3)) (kk : ∀ (H1 : Heap) (locs1 : List Loc), va_P D vwCl (tc_cW ad cA (tc_sf σ 1 v)) H1 → va_S A H0 H1 locs1 → W p l e R s m args below meth c H1 locs1 cells slots Q (F0 m (pc + 3) ls rest)) : W p l e R s m args below meth c H locs cells slots Q (F0 m pc ls (.int v :: .ref (ad 1) :: rest)) := by
  obtain ⟨hx, hb, hml, hown, ⟨hK, hN⟩, hr, hlk⟩ := C
  exact va_put (D := D) (ci := 1) (v := .int v) (ty := .int) (C := RXM) (T := TXM) (N := 10) hx hb (tc_ht hN tc_in_XM) (fun _ h => h) tyXM tyXM_ok nmXM hown hK hP (hJ σ) hS 1 rfl rfl 3 (by decide) hw (fun _ h9 => h9) rfl (by decide +kernel) rfl rfl (Nat.le_of_ble_eq_true rfl) hdg (fun H1 locs1 h1 _ h3 => kk H1 locs1 h1 h3)
theorem tc_cp7 (C : tc_C p s m args meth c own cc nL ret D cA) (hJ : ∀ σ, va_D A (tc_cW ad cA σ)) (hP : va_P D vwCl (tc_cW ad cA σ) H) (hS : va_S A H0 H locs) (hw : (Cond.fieldLink own index "TwinConsole$MainProcessor" "waits" "Z").before args s = true) (hz : narrow .boolean (.int v) = .int v ∧ fits .boolean (.int v) = true) (hdg : decode cc pc = .ok (.putfield index, 3)) (kk : ∀ (H1 : Heap) (locs1 : List Loc), va_P D vwCl (tc_cW ad cA (tc_sf σ 7 v)) H1 → va_S A H0 H1 locs1 → W p l e R s m args below meth c H1 locs1 cells slots Q (F0 m (pc + 3) ls rest)) : W p l e R s m args below meth c H locs cells slots Q (F0 m pc ls (.int v :: .ref (ad 1) :: rest)) := by
  obtain ⟨hx, hb, hml, hown, ⟨hK, hN⟩, hr, hlk⟩ := C
  exact va_put (D := D) (ci := 1) (v := .int v) (ty := .boolean) (C := RXM) (T := TXM) (N := 10) hx hb (tc_ht hN tc_in_XM) (fun _ h => h) tyXM tyXM_ok nmXM hown hK hP (hJ σ) hS 1 rfl rfl 9 (by decide) hw (fun _ h9 => h9) rfl (by decide +kernel) hz.1 hz.2 (Nat.le_of_ble_eq_true rfl) hdg (fun H1 locs1 h1 _ h3 => kk H1 locs1 h1 h3)
theorem tc_cst9 (C : tc_C p s m args meth c own cc nL ret D cA) (hJ : ∀ σ, va_D A (tc_cW ad cA σ)) (hP : va_P D vwCl (tc_cW ad cA σ) H) (hS : va_S A H0 H locs) (hi : vp_in i 8) (hdg : decode cc pc = .ok (.iastore, 1)) (kk : ∀ (H1 : Heap) (locs1 : List Loc), va_P D vwCl (tc_cW ad cA (tc_sa σ 0 i v)) H1 → va_S A H0 H1 locs1 → W p l e R s m args below meth c H1 locs1 cells slots Q (F0 m (pc + 1) ls rest)) : W p l e R s m args below meth c H locs cells slots Q (F0 m pc ls (.int v :: .int i :: .ref (ad 9) :: rest)) := by
  obtain ⟨hx, hb, hml, hown, ⟨hK, hN⟩, hr, hlk⟩ := C
  exact va_iast hx hb hK hP (hJ σ) hS 9 0 rfl rfl hi hdg (fun H1 locs1 h1 _ h3 => kk H1 locs1 h1 h3)
theorem tc_cr_XT_bus (C : tc_C p s m args meth c own cc nL ret D cA) (hP : va_P D vwCl (tc_cW ad cA σ) H) (hw : (Cond.fieldLink own index "TwinConsole" "bus" "LTwinConsole$Bus;").before args s = true) (hdg : decode cc pc = .ok (.getfield index, 3)) (kk : W p l e R s m args below meth c H locs cells slots Q (F0 m (pc + 3) ls (.ref (ad 6) :: rest))) : W p l e R s m args below meth c H locs cells slots Q (F0 m pc ls (.ref (ad 0) :: rest)) := by
  obtain ⟨hx, hb, hml, hown, ⟨hK, hN⟩, hr, hlk⟩ := C
  exact va_get (D := D) (ci := 0) (v := .ref (ad 6)) (C := RXT) (T := TXT) (N := 7) hx hb (tc_ht hN tc_in_XT) (fun _ h => h) hown hK hP 0 rfl rfl 5 (by decide) hw (fun _ h9 => h9) rfl hdg kk
theorem tc_cpN32 (C : tc_C p s m args meth c own cc nL ret D cA) (hJ : ∀ σ, va_D A (tc_cW ad cA σ)) (hP : va_P D vwCl (tc_cW ad cA σ) H) (hS : va_S A H0 H locs) (hw : (Cond.fieldLinkNest own index "TwinConsole$Bus" "padKeys" "I" "TwinConsole").before args s = true) (hdg : decode cc pc = .ok (.putfield index, 3)) (kk : ∀ (H1 : Heap) (locs1 : List Loc), va_P D vwCl (tc_cW ad cA (tc_sf σ 32 v)) H1 → va_S A H0 H1 locs1 → W p l e R s m args below meth c H1 locs1 cells slots Q (F0 m (pc + 3) ls rest)) : W p l e R s m args below meth c H locs cells slots Q (F0 m pc ls (.int v :: .ref (ad 6) :: rest)) := by
  obtain ⟨hx, hb, hml, hown, ⟨hK, hN⟩, hr, hlk⟩ := C
  exact va_putN (D := D) (ci := 6) (v := .int v) (ty := .int) (C := RXU) (T := TXU) (N := 8) hx hb (tc_ht hN tc_in_XU) (fun _ h => h) tyXU tyXU_ok nmXU hown hK hP (hJ σ) hS 6 rfl rfl 6 (by decide) hw (fun _ h9 => h9) rfl (by decide +kernel) rfl rfl (Nat.le_of_ble_eq_true rfl) hdg (fun H1 locs1 h1 _ h3 => kk H1 locs1 h1 h3)
theorem tc_cr_XT_beam (C : tc_C p s m args meth c own cc nL ret D cA) (hP : va_P D vwCl (tc_cW ad cA σ) H) (hw : (Cond.fieldLink own index "TwinConsole" "beam" "LTwinConsole$Beam;").before args s = true) (hdg : decode cc pc = .ok (.getfield index, 3)) (kk : W p l e R s m args below meth c H locs cells slots Q (F0 m (pc + 3) ls (.ref (ad 4) :: rest))) : W p l e R s m args below meth c H locs cells slots Q (F0 m pc ls (.ref (ad 0) :: rest)) := by
  obtain ⟨hx, hb, hml, hown, ⟨hK, hN⟩, hr, hlk⟩ := C
  exact va_get (D := D) (ci := 0) (v := .ref (ad 4)) (C := RXT) (T := TXT) (N := 7) hx hb (tc_ht hN tc_in_XT) (fun _ h => h) hown hK hP 0 rfl rfl 4 (by decide) hw (fun _ h9 => h9) rfl hdg kk
theorem tc_cgN2 (C : tc_C p s m args meth c own cc nL ret D cA) (hP : va_P D vwCl (tc_cW ad cA σ) H) (hw : (Cond.fieldLinkNest own index "TwinConsole$MainProcessor" "mask" "I" "TwinConsole").before args s = true) (hdg : decode cc pc = .ok (.getfield index, 3)) (kk : W p l e R s m args below meth c H locs cells slots Q (F0 m (pc + 3) ls (.int (tc_gf σ 2) :: rest))) : W p l e R s m args below meth c H locs cells slots Q (F0 m pc ls (.ref (ad 1) :: rest)) := by
  obtain ⟨hx, hb, hml, hown, ⟨hK, hN⟩, hr, hlk⟩ := C
  exact va_getN (D := D) (ci := 1) (v := .int (tc_gf σ 2)) (C := RXM) (T := TXM) (N := 10) hx hb (tc_ht hN tc_in_XM) (fun _ h => h) hown hK hP 1 rfl rfl 4 (by decide) hw (fun _ h9 => h9) rfl hdg kk
theorem tc_cg31 (C : tc_C p s m args meth c own cc nL ret D cA) (hP : va_P D vwCl (tc_cW ad cA σ) H) (hw : (Cond.fieldLink own index "TwinConsole$Beam" "pending6" "Z").before args s = true) (hdg : decode cc pc = .ok (.getfield index, 3)) (kk : W p l e R s m args below meth c H locs cells slots Q (F0 m (pc + 3) ls (.int (tc_gf σ 31) :: rest))) : W p l e R s m args below meth c H locs cells slots Q (F0 m pc ls (.ref (ad 4) :: rest)) := by
  obtain ⟨hx, hb, hml, hown, ⟨hK, hN⟩, hr, hlk⟩ := C
  exact va_get (D := D) (ci := 4) (v := .int (tc_gf σ 31)) (C := RXB) (T := TXB) (N := 8) hx hb (tc_ht hN tc_in_XB) (fun _ h => h) hown hK hP 4 rfl rfl 7 (by decide) hw (fun _ h9 => h9) rfl hdg kk
theorem tc_cg30 (C : tc_C p s m args meth c own cc nL ret D cA) (hP : va_P D vwCl (tc_cW ad cA σ) H) (hw : (Cond.fieldLink own index "TwinConsole$Beam" "pending4" "Z").before args s = true) (hdg : decode cc pc = .ok (.getfield index, 3)) (kk : W p l e R s m args below meth c H locs cells slots Q (F0 m (pc + 3) ls (.int (tc_gf σ 30) :: rest))) : W p l e R s m args below meth c H locs cells slots Q (F0 m pc ls (.ref (ad 4) :: rest)) := by
  obtain ⟨hx, hb, hml, hown, ⟨hK, hN⟩, hr, hlk⟩ := C
  exact va_get (D := D) (ci := 4) (v := .int (tc_gf σ 30)) (C := RXB) (T := TXB) (N := 8) hx hb (tc_ht hN tc_in_XB) (fun _ h => h) hown hK hP 4 rfl rfl 6 (by decide) hw (fun _ h9 => h9) rfl hdg kk
theorem tc_cr_XT_picture (C : tc_C p s m args meth c own cc nL ret D cA) (hP : va_P D vwCl (tc_cW ad cA σ) H) (hw : (Cond.fieldLink own index "TwinConsole" "picture" "LTwinConsole$PictureUnit;").before args s = true) (hdg : decode cc pc = .ok (.getfield index, 3)) (kk : W p l e R s m args below meth c H locs cells slots Q (F0 m (pc + 3) ls (.ref (ad 3) :: rest))) : W p l e R s m args below meth c H locs cells slots Q (F0 m pc ls (.ref (ad 0) :: rest)) := by
  obtain ⟨hx, hb, hml, hown, ⟨hK, hN⟩, hr, hlk⟩ := C
  exact va_get (D := D) (ci := 0) (v := .ref (ad 3)) (C := RXT) (T := TXT) (N := 7) hx hb (tc_ht hN tc_in_XT) (fun _ h => h) hown hK hP 0 rfl rfl 2 (by decide) hw (fun _ h9 => h9) rfl hdg kk
theorem tc_cg23 (C : tc_C p s m args meth c own cc nL ret D cA) (hP : va_P D vwCl (tc_cW ad cA σ) H) (hw : (Cond.fieldLink own index "TwinConsole$PictureUnit" "wordsLeft" "I").before args s = true) (hdg : decode cc pc = .ok (.getfield index, 3)) (kk : W p l e R s m args below meth c H locs cells slots Q (F0 m (pc + 3) ls (.int (tc_gf σ 23) :: rest))) : W p l e R s m args below meth c H locs cells slots Q (F0 m pc ls (.ref (ad 3) :: rest)) := by
  obtain ⟨hx, hb, hml, hown, ⟨hK, hN⟩, hr, hlk⟩ := C
  exact va_get (D := D) (ci := 3) (v := .int (tc_gf σ 23)) (C := RXP) (T := TXP) (N := 10) hx hb (tc_ht hN tc_in_XP) (fun _ h => h) hown hK hP 3 rfl rfl 8 (by decide) hw (fun _ h9 => h9) rfl hdg kk
theorem tc_cgN7 (C : tc_C p s m args meth c own cc nL ret D cA) (hP : va_P D vwCl (tc_cW ad cA σ) H) (hw : (Cond.fieldLinkNest own index "TwinConsole$MainProcessor" "waits" "Z" "TwinConsole").before args s = true) (hdg : decode cc pc = .ok (.getfield index, 3)) (kk : W p l e R s m args below meth c H locs cells slots Q (F0 m (pc + 3) ls (.int (tc_gf σ 7) :: rest))) : W p l e R s m args below meth c H locs cells slots Q (F0 m pc ls (.ref (ad 1) :: rest)) := by
  obtain ⟨hx, hb, hml, hown, ⟨hK, hN⟩, hr, hlk⟩ := C
  exact va_getN (D := D) (ci := 1) (v := .int (tc_gf σ 7)) (C := RXM) (T := TXM) (N := 10) hx hb (tc_ht hN tc_in_XM) (fun _ h => h) hown hK hP 1 rfl rfl 9 (by decide) hw (fun _ h9 => h9) rfl hdg kk
theorem tc_cr_XT_second (C : tc_C p s m args meth c own cc nL ret D cA) (hP : va_P D vwCl (tc_cW ad cA σ) H) (hw : (Cond.fieldLink own index "TwinConsole" "second" "LTwinConsole$SecondProcessor;").before args s = true) (hdg : decode cc pc = .ok (.getfield index, 3)) (kk : W p l e R s m args below meth c H locs cells slots Q (F0 m (pc + 3) ls (.ref (ad 2) :: rest))) : W p l e R s m args below meth c H locs cells slots Q (F0 m pc ls (.ref (ad 0) :: rest)) := by
  obtain ⟨hx, hb, hml, hown, ⟨hK, hN⟩, hr, hlk⟩ := C
  exact va_get (D := D) (ci := 0) (v := .ref (ad 2)) (C := RXT) (T := TXT) (N := 7) hx hb (tc_ht hN tc_in_XT) (fun _ h => h) hown hK hP 0 rfl rfl 1 (by decide) hw (fun _ h9 => h9) rfl hdg kk
theorem tc_cg18 (C : tc_C p s m args meth c own cc nL ret D cA) (hP : va_P D vwCl (tc_cW ad cA σ) H) (hw : (Cond.fieldLink own index "TwinConsole$SecondProcessor" "mainLate" "I").before args s = true) (hdg : decode cc pc = .ok (.getfield index, 3)) (kk : W p l e R s m args below meth c H locs cells slots Q (F0 m (pc + 3) ls (.int (tc_gf σ 18) :: rest))) : W p l e R s m args below meth c H locs cells slots Q (F0 m pc ls (.ref (ad 2) :: rest)) := by
  obtain ⟨hx, hb, hml, hown, ⟨hK, hN⟩, hr, hlk⟩ := C
  exact va_get (D := D) (ci := 2) (v := .int (tc_gf σ 18)) (C := RXS) (T := TXS) (N := 13) hx hb (tc_ht hN tc_in_XS) (fun _ h => h) hown hK hP 2 rfl rfl 12 (by decide) hw (fun _ h9 => h9) rfl hdg kk
theorem tc_cp18 (C : tc_C p s m args meth c own cc nL ret D cA) (hJ : ∀ σ, va_D A (tc_cW ad cA σ)) (hP : va_P D vwCl (tc_cW ad cA σ) H) (hS : va_S A H0 H locs) (hw : (Cond.fieldLink own index "TwinConsole$SecondProcessor" "mainLate" "I").before args s = true) (hdg : decode cc pc = .ok (.putfield index, 3)) (kk : ∀ (H1 : Heap) (locs1 : List Loc), va_P D vwCl (tc_cW ad cA (tc_sf σ 18 v)) H1 → va_S A H0 H1 locs1 → W p l e R s m args below meth c H1 locs1 cells slots Q (F0 m (pc + 3) ls rest)) : W p l e R s m args below meth c H locs cells slots Q (F0 m pc ls (.int v :: .ref (ad 2) :: rest)) := by
  obtain ⟨hx, hb, hml, hown, ⟨hK, hN⟩, hr, hlk⟩ := C
  exact va_put (D := D) (ci := 2) (v := .int v) (ty := .int) (C := RXS) (T := TXS) (N := 13) hx hb (tc_ht hN tc_in_XS) (fun _ h => h) tyXS tyXS_ok nmXS hown hK hP (hJ σ) hS 2 rfl rfl 12 (by decide) hw (fun _ h9 => h9) rfl (by decide +kernel) rfl rfl (Nat.le_of_ble_eq_true rfl) hdg (fun H1 locs1 h1 _ h3 => kk H1 locs1 h1 h3)
theorem tc_cg1 (C : tc_C p s m args meth c own cc nL ret D cA) (hP : va_P D vwCl (tc_cW ad cA σ) H) (hw : (Cond.fieldLink own index "TwinConsole$MainProcessor" "pc" "I").before args s = true) (hdg : decode cc pc = .ok (.getfield index, 3)) (kk : W p l e R s m args below meth c H locs cells slots Q (F0 m (pc + 3) ls (.int (tc_gf σ 1) :: rest))) : W p l e R s m args below meth c H locs cells slots Q (F0 m pc ls (.ref (ad 1) :: rest)) := by
  obtain ⟨hx, hb, hml, hown, ⟨hK, hN⟩, hr, hlk⟩ := C
  exact va_get (D := D) (ci := 1) (v := .int (tc_gf σ 1)) (C := RXM) (T := TXM) (N := 10) hx hb (tc_ht hN tc_in_XM) (fun _ h => h) hown hK hP 1 rfl rfl 3 (by decide) hw (fun _ h9 => h9) rfl hdg kk
theorem tc_cld9 (C : tc_C p s m args meth c own cc nL ret D cA) (hP : va_P D vwCl (tc_cW ad cA σ) H) (hi : vp_in i 8) (hdg : decode cc pc = .ok (.iaload, 1)) (kk : W p l e R s m args below meth c H locs cells slots Q (F0 m (pc + 1) ls (.int (tc_ga σ 0 i) :: rest))) : W p l e R s m args below meth c H locs cells slots Q (F0 m pc ls (.int i :: .ref (ad 9) :: rest)) := by
  obtain ⟨hx, hb, hml, hown, ⟨hK, hN⟩, hr, hlk⟩ := C
  exact va_iald hx hb hK hP 9 0 rfl rfl hi hdg kk
theorem tc_cr_XU_picture (C : tc_C p s m args meth c own cc nL ret D cA) (hP : va_P D vwCl (tc_cW ad cA σ) H) (hw : (Cond.fieldLink own index "TwinConsole$Bus" "picture" "LTwinConsole$PictureUnit;").before args s = true) (hdg : decode cc pc = .ok (.getfield index, 3)) (kk : W p l e R s m args below meth c H locs cells slots Q (F0 m (pc + 3) ls (.ref (ad 3) :: rest))) : W p l e R s m args below meth c H locs cells slots Q (F0 m pc ls (.ref (ad 6) :: rest)) := by
  obtain ⟨hx, hb, hml, hown, ⟨hK, hN⟩, hr, hlk⟩ := C
  exact va_get (D := D) (ci := 6) (v := .ref (ad 3)) (C := RXU) (T := TXU) (N := 8) hx hb (tc_ht hN tc_in_XU) (fun _ h => h) hown hK hP 6 rfl rfl 3 (by decide) hw (fun _ h9 => h9) rfl hdg kk
theorem tc_cp21 (C : tc_C p s m args meth c own cc nL ret D cA) (hJ : ∀ σ, va_D A (tc_cW ad cA σ)) (hP : va_P D vwCl (tc_cW ad cA σ) H) (hS : va_S A H0 H locs) (hw : (Cond.fieldLink own index "TwinConsole$PictureUnit" "wordWaitedFor" "Z").before args s = true) (hz : narrow .boolean (.int v) = .int v ∧ fits .boolean (.int v) = true) (hdg : decode cc pc = .ok (.putfield index, 3)) (kk : ∀ (H1 : Heap) (locs1 : List Loc), va_P D vwCl (tc_cW ad cA (tc_sf σ 21 v)) H1 → va_S A H0 H1 locs1 → W p l e R s m args below meth c H1 locs1 cells slots Q (F0 m (pc + 3) ls rest)) : W p l e R s m args below meth c H locs cells slots Q (F0 m pc ls (.int v :: .ref (ad 3) :: rest)) := by
  obtain ⟨hx, hb, hml, hown, ⟨hK, hN⟩, hr, hlk⟩ := C
  exact va_put (D := D) (ci := 3) (v := .int v) (ty := .boolean) (C := RXP) (T := TXP) (N := 10) hx hb (tc_ht hN tc_in_XP) (fun _ h => h) tyXP tyXP_ok nmXP hown hK hP (hJ σ) hS 3 rfl rfl 6 (by decide) hw (fun _ h9 => h9) rfl (by decide +kernel) hz.1 hz.2 (Nat.le_of_ble_eq_true rfl) hdg (fun H1 locs1 h1 _ h3 => kk H1 locs1 h1 h3)
theorem tc_cg19 (C : tc_C p s m args meth c own cc nL ret D cA) (hP : va_P D vwCl (tc_cW ad cA σ) H) (hw : (Cond.fieldLink own index "TwinConsole$PictureUnit" "address" "I").before args s = true) (hdg : decode cc pc = .ok (.getfield index, 3)) (kk : W p l e R s m args below meth c H locs cells slots Q (F0 m (pc + 3) ls (.int (tc_gf σ 19) :: rest))) : W p l e R s m args below meth c H locs cells slots Q (F0 m pc ls (.ref (ad 3) :: rest)) := by
  obtain ⟨hx, hb, hml, hown, ⟨hK, hN⟩, hr, hlk⟩ := C
  exact va_get (D := D) (ci := 3) (v := .int (tc_gf σ 19)) (C := RXP) (T := TXP) (N := 10) hx hb (tc_ht hN tc_in_XP) (fun _ h => h) hown hK hP 3 rfl rfl 4 (by decide) hw (fun _ h9 => h9) rfl hdg kk
theorem tc_cg20 (C : tc_C p s m args meth c own cc nL ret D cA) (hP : va_P D vwCl (tc_cW ad cA σ) H) (hw : (Cond.fieldLink own index "TwinConsole$PictureUnit" "code" "I").before args s = true) (hdg : decode cc pc = .ok (.getfield index, 3)) (kk : W p l e R s m args below meth c H locs cells slots Q (F0 m (pc + 3) ls (.int (tc_gf σ 20) :: rest))) : W p l e R s m args below meth c H locs cells slots Q (F0 m pc ls (.ref (ad 3) :: rest)) := by
  obtain ⟨hx, hb, hml, hown, ⟨hK, hN⟩, hr, hlk⟩ := C
  exact va_get (D := D) (ci := 3) (v := .int (tc_gf σ 20)) (C := RXP) (T := TXP) (N := 10) hx hb (tc_ht hN tc_in_XP) (fun _ h => h) hown hK hP 3 rfl rfl 5 (by decide) hw (fun _ h9 => h9) rfl hdg kk
theorem tc_cr_XP_vramBytes (C : tc_C p s m args meth c own cc nL ret D cA) (hP : va_P D vwCl (tc_cW ad cA σ) H) (hw : (Cond.fieldLink own index "TwinConsole$PictureUnit" "vramBytes" "[I").before args s = true) (hdg : decode cc pc = .ok (.getfield index, 3)) (kk : W p l e R s m args below meth c H locs cells slots Q (F0 m (pc + 3) ls (.ref (ad 11) :: rest))) : W p l e R s m args below meth c H locs cells slots Q (F0 m pc ls (.ref (ad 3) :: rest)) := by
  obtain ⟨hx, hb, hml, hown, ⟨hK, hN⟩, hr, hlk⟩ := C
  exact va_get (D := D) (ci := 3) (v := .ref (ad 11)) (C := RXP) (T := TXP) (N := 10) hx hb (tc_ht hN tc_in_XP) (fun _ h => h) hown hK hP 3 rfl rfl 0 (by decide) hw (fun _ h9 => h9) rfl hdg kk
theorem tc_cst11 (C : tc_C p s m args meth c own cc nL ret D cA) (hJ : ∀ σ, va_D A (tc_cW ad cA σ)) (hP : va_P D vwCl (tc_cW ad cA σ) H) (hS : va_S A H0 H locs) (hi : vp_in i 1024) (hdg : decode cc pc = .ok (.iastore, 1)) (kk : ∀ (H1 : Heap) (locs1 : List Loc), va_P D vwCl (tc_cW ad cA (tc_sa σ 2 i v)) H1 → va_S A H0 H1 locs1 → W p l e R s m args below meth c H1 locs1 cells slots Q (F0 m (pc + 1) ls rest)) : W p l e R s m args below meth c H locs cells slots Q (F0 m pc ls (.int v :: .int i :: .ref (ad 11) :: rest)) := by
  obtain ⟨hx, hb, hml, hown, ⟨hK, hN⟩, hr, hlk⟩ := C
  exact va_iast hx hb hK hP (hJ σ) hS 11 0 rfl rfl hi hdg (fun H1 locs1 h1 _ h3 => kk H1 locs1 h1 h3)
theorem tc_cr_XP_registers (C : tc_C p s m args meth c own cc nL ret D cA) (hP : va_P D vwCl (tc_cW ad cA σ) H) (hw : (Cond.fieldLink own index "TwinConsole$PictureUnit" "registers" "[I").before args s = true) (hdg : decode cc pc = .ok (.getfield index, 3)) (kk : W p l e R s m args below meth c H locs cells slots Q (F0 m (pc + 3) ls (.ref (ad 14) :: rest))) : W p l e R s m args below meth c H locs cells slots Q (F0 m pc ls (.ref (ad 3) :: rest)) := by
  obtain ⟨hx, hb, hml, hown, ⟨hK, hN⟩, hr, hlk⟩ := C
  exact va_get (D := D) (ci := 3) (v := .ref (ad 14)) (C := RXP) (T := TXP) (N := 10) hx hb (tc_ht hN tc_in_XP) (fun _ h => h) hown hK hP 3 rfl rfl 3 (by decide) hw (fun _ h9 => h9) rfl hdg kk
theorem tc_cld14 (C : tc_C p s m args meth c own cc nL ret D cA) (hP : va_P D vwCl (tc_cW ad cA σ) H) (hi : vp_in i 16) (hdg : decode cc pc = .ok (.iaload, 1)) (kk : W p l e R s m args below meth c H locs cells slots Q (F0 m (pc + 1) ls (.int (tc_ga σ 5 i) :: rest))) : W p l e R s m args below meth c H locs cells slots Q (F0 m pc ls (.int i :: .ref (ad 14) :: rest)) := by
  obtain ⟨hx, hb, hml, hown, ⟨hK, hN⟩, hr, hlk⟩ := C
  exact va_iald hx hb hK hP 14 0 rfl rfl hi hdg kk
theorem tc_cp19 (C : tc_C p s m args meth c own cc nL ret D cA) (hJ : ∀ σ, va_D A (tc_cW ad cA σ)) (hP : va_P D vwCl (tc_cW ad cA σ) H) (hS : va_S A H0 H locs) (hw : (Cond.fieldLink own index "TwinConsole$PictureUnit" "address" "I").before args s = true) (hdg : decode cc pc = .ok (.putfield index, 3)) (kk : ∀ (H1 : Heap) (locs1 : List Loc), va_P D vwCl (tc_cW ad cA (tc_sf σ 19 v)) H1 → va_S A H0 H1 locs1 → W p l e R s m args below meth c H1 locs1 cells slots Q (F0 m (pc + 3) ls rest)) : W p l e R s m args below meth c H locs cells slots Q (F0 m pc ls (.int v :: .ref (ad 3) :: rest)) := by
  obtain ⟨hx, hb, hml, hown, ⟨hK, hN⟩, hr, hlk⟩ := C
  exact va_put (D := D) (ci := 3) (v := .int v) (ty := .int) (C := RXP) (T := TXP) (N := 10) hx hb (tc_ht hN tc_in_XP) (fun _ h => h) tyXP tyXP_ok nmXP hown hK hP (hJ σ) hS 3 rfl rfl 4 (by decide) hw (fun _ h9 => h9) rfl (by decide +kernel) rfl rfl (Nat.le_of_ble_eq_true rfl) hdg (fun H1 locs1 h1 _ h3 => kk H1 locs1 h1 h3)
theorem tc_cr_XP_cram (C : tc_C p s m args meth c own cc nL ret D cA) (hP : va_P D vwCl (tc_cW ad cA σ) H) (hw : (Cond.fieldLink own index "TwinConsole$PictureUnit" "cram" "[I").before args s = true) (hdg : decode cc pc = .ok (.getfield index, 3)) (kk : W p l e R s m args below meth c H locs cells slots Q (F0 m (pc + 3) ls (.ref (ad 12) :: rest))) : W p l e R s m args below meth c H locs cells slots Q (F0 m pc ls (.ref (ad 3) :: rest)) := by
  obtain ⟨hx, hb, hml, hown, ⟨hK, hN⟩, hr, hlk⟩ := C
  exact va_get (D := D) (ci := 3) (v := .ref (ad 12)) (C := RXP) (T := TXP) (N := 10) hx hb (tc_ht hN tc_in_XP) (fun _ h => h) hown hK hP 3 rfl rfl 1 (by decide) hw (fun _ h9 => h9) rfl hdg kk
theorem tc_cst12 (C : tc_C p s m args meth c own cc nL ret D cA) (hJ : ∀ σ, va_D A (tc_cW ad cA σ)) (hP : va_P D vwCl (tc_cW ad cA σ) H) (hS : va_S A H0 H locs) (hi : vp_in i 16) (hdg : decode cc pc = .ok (.iastore, 1)) (kk : ∀ (H1 : Heap) (locs1 : List Loc), va_P D vwCl (tc_cW ad cA (tc_sa σ 3 i v)) H1 → va_S A H0 H1 locs1 → W p l e R s m args below meth c H1 locs1 cells slots Q (F0 m (pc + 1) ls rest)) : W p l e R s m args below meth c H locs cells slots Q (F0 m pc ls (.int v :: .int i :: .ref (ad 12) :: rest)) := by
  obtain ⟨hx, hb, hml, hown, ⟨hK, hN⟩, hr, hlk⟩ := C
  exact va_iast hx hb hK hP (hJ σ) hS 12 0 rfl rfl hi hdg (fun H1 locs1 h1 _ h3 => kk H1 locs1 h1 h3)
theorem tc_cr_XP_vsram (C : tc_C p s m args meth c own cc nL ret D cA) (hP : va_P D vwCl (tc_cW ad cA σ) H) (hw : (Cond.fieldLink own index "TwinConsole$PictureUnit" "vsram" "[I").before args s = true) (hdg : decode cc pc = .ok (.getfield index, 3)) (kk : W p l e R s m args below meth c H locs cells slots Q (F0 m (pc + 3) ls (.ref (ad 13) :: rest))) : W p l e R s m args below meth c H locs cells slots Q (F0 m pc ls (.ref (ad 3) :: rest)) := by
  obtain ⟨hx, hb, hml, hown, ⟨hK, hN⟩, hr, hlk⟩ := C
  exact va_get (D := D) (ci := 3) (v := .ref (ad 13)) (C := RXP) (T := TXP) (N := 10) hx hb (tc_ht hN tc_in_XP) (fun _ h => h) hown hK hP 3 rfl rfl 2 (by decide) hw (fun _ h9 => h9) rfl hdg kk
theorem tc_cst13 (C : tc_C p s m args meth c own cc nL ret D cA) (hJ : ∀ σ, va_D A (tc_cW ad cA σ)) (hP : va_P D vwCl (tc_cW ad cA σ) H) (hS : va_S A H0 H locs) (hi : vp_in i 2) (hdg : decode cc pc = .ok (.iastore, 1)) (kk : ∀ (H1 : Heap) (locs1 : List Loc), va_P D vwCl (tc_cW ad cA (tc_sa σ 4 i v)) H1 → va_S A H0 H1 locs1 → W p l e R s m args below meth c H1 locs1 cells slots Q (F0 m (pc + 1) ls rest)) : W p l e R s m args below meth c H locs cells slots Q (F0 m pc ls (.int v :: .int i :: .ref (ad 13) :: rest)) := by
  obtain ⟨hx, hb, hml, hown, ⟨hK, hN⟩, hr, hlk⟩ := C
  exact va_iast hx hb hK hP (hJ σ) hS 13 0 rfl rfl hi hdg (fun H1 locs1 h1 _ h3 => kk H1 locs1 h1 h3)
theorem tc_cg22 (C : tc_C p s m args meth c own cc nL ret D cA) (hP : va_P D vwCl (tc_cW ad cA σ) H) (hw : (Cond.fieldLink own index "TwinConsole$PictureUnit" "fillWaitedFor" "Z").before args s = true) (hdg : decode cc pc = .ok (.getfield index, 3)) (kk : W p l e R s m args below meth c H locs cells slots Q (F0 m (pc + 3) ls (.int (tc_gf σ 22) :: rest))) : W p l e R s m args below meth c H locs cells slots Q (F0 m pc ls (.ref (ad 3) :: rest)) := by
  obtain ⟨hx, hb, hml, hown, ⟨hK, hN⟩, hr, hlk⟩ := C
  exact va_get (D := D) (ci := 3) (v := .int (tc_gf σ 22)) (C := RXP) (T := TXP) (N := 10) hx hb (tc_ht hN tc_in_XP) (fun _ h => h) hown hK hP 3 rfl rfl 7 (by decide) hw (fun _ h9 => h9) rfl hdg kk
theorem tc_cp22 (C : tc_C p s m args meth c own cc nL ret D cA) (hJ : ∀ σ, va_D A (tc_cW ad cA σ)) (hP : va_P D vwCl (tc_cW ad cA σ) H) (hS : va_S A H0 H locs) (hw : (Cond.fieldLink own index "TwinConsole$PictureUnit" "fillWaitedFor" "Z").before args s = true) (hz : narrow .boolean (.int v) = .int v ∧ fits .boolean (.int v) = true) (hdg : decode cc pc = .ok (.putfield index, 3)) (kk : ∀ (H1 : Heap) (locs1 : List Loc), va_P D vwCl (tc_cW ad cA (tc_sf σ 22 v)) H1 → va_S A H0 H1 locs1 → W p l e R s m args below meth c H1 locs1 cells slots Q (F0 m (pc + 3) ls rest)) : W p l e R s m args below meth c H locs cells slots Q (F0 m pc ls (.int v :: .ref (ad 3) :: rest)) := by
  obtain ⟨hx, hb, hml, hown, ⟨hK, hN⟩, hr, hlk⟩ := C
  exact va_put (D := D) (ci := 3) (v := .int v) (ty := .boolean) (C := RXP) (T := TXP) (N := 10) hx hb (tc_ht hN tc_in_XP) (fun _ h => h) tyXP tyXP_ok nmXP hown hK hP (hJ σ) hS 3 rfl rfl 7 (by decide) hw (fun _ h9 => h9) rfl (by decide +kernel) hz.1 hz.2 (Nat.le_of_ble_eq_true rfl) hdg (fun H1 locs1 h1 _ h3 => kk H1 locs1 h1 h3)
theorem tc_cst14 (C : tc_C p s m args meth c own cc nL ret D cA) (hJ : ∀ σ, va_D A (tc_cW ad cA σ)) (hP : va_P D vwCl (tc_cW ad cA σ) H) (hS : va_S A H0 H locs) (hi : vp_in i 16) (hdg : decode cc pc = .ok (.iastore, 1)) (kk : ∀ (H1 : Heap) (locs1 : List Loc), va_P D vwCl (tc_cW ad cA (tc_sa σ 5 i v)) H1 → va_S A H0 H1 locs1 → W p l e R s m args below meth c H1 locs1 cells slots Q (F0 m (pc + 1) ls rest)) : W p l e R s m args below meth c H locs cells slots Q (F0 m pc ls (.int v :: .int i :: .ref (ad 14) :: rest)) := by
  obtain ⟨hx, hb, hml, hown, ⟨hK, hN⟩, hr, hlk⟩ := C
  exact va_iast hx hb hK hP (hJ σ) hS 14 0 rfl rfl hi hdg (fun H1 locs1 h1 _ h3 => kk H1 locs1 h1 h3)
theorem tc_cg21 (C : tc_C p s m args meth c own cc nL ret D cA) (hP : va_P D vwCl (tc_cW ad cA σ) H) (hw : (Cond.fieldLink own index "TwinConsole$PictureUnit" "wordWaitedFor" "Z").before args s = true) (hdg : decode cc pc = .ok (.getfield index, 3)) (kk : W p l e R s m args below meth c H locs cells slots Q (F0 m (pc + 3) ls (.int (tc_gf σ 21) :: rest))) : W p l e R s m args below meth c H locs cells slots Q (F0 m pc ls (.ref (ad 3) :: rest)) := by
  obtain ⟨hx, hb, hml, hown, ⟨hK, hN⟩, hr, hlk⟩ := C
  exact va_get (D := D) (ci := 3) (v := .int (tc_gf σ 21)) (C := RXP) (T := TXP) (N := 10) hx hb (tc_ht hN tc_in_XP) (fun _ h => h) hown hK hP 3 rfl rfl 6 (by decide) hw (fun _ h9 => h9) rfl hdg kk
theorem tc_cp20 (C : tc_C p s m args meth c own cc nL ret D cA) (hJ : ∀ σ, va_D A (tc_cW ad cA σ)) (hP : va_P D vwCl (tc_cW ad cA σ) H) (hS : va_S A H0 H locs) (hw : (Cond.fieldLink own index "TwinConsole$PictureUnit" "code" "I").before args s = true) (hdg : decode cc pc = .ok (.putfield index, 3)) (kk : ∀ (H1 : Heap) (locs1 : List Loc), va_P D vwCl (tc_cW ad cA (tc_sf σ 20 v)) H1 → va_S A H0 H1 locs1 → W p l e R s m args below meth c H1 locs1 cells slots Q (F0 m (pc + 3) ls rest)) : W p l e R s m args below meth c H locs cells slots Q (F0 m pc ls (.int v :: .ref (ad 3) :: rest)) := by
  obtain ⟨hx, hb, hml, hown, ⟨hK, hN⟩, hr, hlk⟩ := C
  exact va_put (D := D) (ci := 3) (v := .int v) (ty := .int) (C := RXP) (T := TXP) (N := 10) hx hb (tc_ht hN tc_in_XP) (fun _ h => h) tyXP tyXP_ok nmXP hown hK hP (hJ σ) hS 3 rfl rfl 5 (by decide) hw (fun _ h9 => h9) rfl (by decide +kernel) rfl rfl (Nat.le_of_ble_eq_true rfl) hdg (fun H1 locs1 h1 _ h3 => kk H1 locs1 h1 h3)
theorem tc_cld11 (C : tc_C p s m args meth c own cc nL ret D cA) (hP : va_P D vwCl (tc_cW ad cA σ) H) (hi : vp_in i 1024) (hdg : decode cc pc = .ok (.iaload, 1)) (kk : W p l e R s m args below meth c H locs cells slots Q (F0 m (pc + 1) ls (.int (tc_ga σ 2 i) :: rest))) : W p l e R s m args below meth c H locs cells slots Q (F0 m pc ls (.int i :: .ref (ad 11) :: rest)) := by
  obtain ⟨hx, hb, hml, hown, ⟨hK, hN⟩, hr, hlk⟩ := C
  exact va_iald hx hb hK hP 11 0 rfl rfl hi hdg kk
theorem tc_cp24 (C : tc_C p s m args meth c own cc nL ret D cA) (hJ : ∀ σ, va_D A (tc_cW ad cA σ)) (hP : va_P D vwCl (tc_cW ad cA σ) H) (hS : va_S A H0 H locs) (hw : (Cond.fieldLink own index "TwinConsole$PictureUnit" "source" "I").before args s = true) (hdg : decode cc pc = .ok (.putfield index, 3)) (kk : ∀ (H1 : Heap) (locs1 : List Loc), va_P D vwCl (tc_cW ad cA (tc_sf σ 24 v)) H1 → va_S A H0 H1 locs1 → W p l e R s m args below meth c H1 locs1 cells slots Q (F0 m (pc + 3) ls rest)) : W p l e R s m args below meth c H locs cells slots Q (F0 m pc ls (.int v :: .ref (ad 3) :: rest)) := by
  obtain ⟨hx, hb, hml, hown, ⟨hK, hN⟩, hr, hlk⟩ := C
  exact va_put (D := D) (ci := 3) (v := .int v) (ty := .int) (C := RXP) (T := TXP) (N := 10) hx hb (tc_ht hN tc_in_XP) (fun _ h => h) tyXP tyXP_ok nmXP hown hK hP (hJ σ) hS 3 rfl rfl 9 (by decide) hw (fun _ h9 => h9) rfl (by decide +kernel) rfl rfl (Nat.le_of_ble_eq_true rfl) hdg (fun H1 locs1 h1 _ h3 => kk H1 locs1 h1 h3)
theorem tc_cp23 (C : tc_C p s m args meth c own cc nL ret D cA) (hJ : ∀ σ, va_D A (tc_cW ad cA σ)) (hP : va_P D vwCl (tc_cW ad cA σ) H) (hS : va_S A H0 H locs) (hw : (Cond.fieldLink own index "TwinConsole$PictureUnit" "wordsLeft" "I").before args s = true) (hdg : decode cc pc = .ok (.putfield index, 3)) (kk : ∀ (H1 : Heap) (locs1 : List Loc), va_P D vwCl (tc_cW ad cA (tc_sf σ 23 v)) H1 → va_S A H0 H1 locs1 → W p l e R s m args below meth c H1 locs1 cells slots Q (F0 m (pc + 3) ls rest)) : W p l e R s m args below meth c H locs cells slots Q (F0 m pc ls (.int v :: .ref (ad 3) :: rest)) := by
  obtain ⟨hx, hb, hml, hown, ⟨hK, hN⟩, hr, hlk⟩ := C
  exact va_put (D := D) (ci := 3) (v := .int v) (ty := .int) (C := RXP) (T := TXP) (N := 10) hx hb (tc_ht hN tc_in_XP) (fun _ h => h) tyXP tyXP_ok nmXP hown hK hP (hJ σ) hS 3 rfl rfl 8 (by decide) hw (fun _ h9 => h9) rfl (by decide +kernel) rfl rfl (Nat.le_of_ble_eq_true rfl) hdg (fun H1 locs1 h1 _ h3 => kk H1 locs1 h1 h3)
theorem tc_cpN15 (C : tc_C p s m args meth c own cc nL ret D cA) (hJ : ∀ σ, va_D A (tc_cW ad cA σ)) (hP : va_P D vwCl (tc_cW ad cA σ) H) (hS : va_S A H0 H locs) (hw : (Cond.fieldLinkNest own index "TwinConsole$SecondProcessor" "held" "Z" "TwinConsole").before args s = true) (hz : narrow .boolean (.int v) = .int v ∧ fits .boolean (.int v) = true) (hdg : decode cc pc = .ok (.putfield index, 3)) (kk : ∀ (H1 : Heap) (locs1 : List Loc), va_P D vwCl (tc_cW ad cA (tc_sf σ 15 v)) H1 → va_S A H0 H1 locs1 → W p l e R s m args below meth c H1 locs1 cells slots Q (F0 m (pc + 3) ls rest)) : W p l e R s m args below meth c H locs cells slots Q (F0 m pc ls (.int v :: .ref (ad 2) :: rest)) := by
  obtain ⟨hx, hb, hml, hown, ⟨hK, hN⟩, hr, hlk⟩ := C
  exact va_putN (D := D) (ci := 2) (v := .int v) (ty := .boolean) (C := RXS) (T := TXS) (N := 13) hx hb (tc_ht hN tc_in_XS) (fun _ h => h) tyXS tyXS_ok nmXS hown hK hP (hJ σ) hS 2 rfl rfl 9 (by decide) hw (fun _ h9 => h9) rfl (by decide +kernel) hz.1 hz.2 (Nat.le_of_ble_eq_true rfl) hdg (fun H1 locs1 h1 _ h3 => kk H1 locs1 h1 h3)
theorem tc_cp16 (C : tc_C p s m args meth c own cc nL ret D cA) (hJ : ∀ σ, va_D A (tc_cW ad cA σ)) (hP : va_P D vwCl (tc_cW ad cA σ) H) (hS : va_S A H0 H locs) (hw : (Cond.fieldLink own index "TwinConsole$SecondProcessor" "inReset" "Z").before args s = true) (hz : narrow .boolean (.int v) = .int v ∧ fits .boolean (.int v) = true) (hdg : decode cc pc = .ok (.putfield index, 3)) (kk : ∀ (H1 : Heap) (locs1 : List Loc), va_P D vwCl (tc_cW ad cA (tc_sf σ 16 v)) H1 → va_S A H0 H1 locs1 → W p l e R s m args below meth c H1 locs1 cells slots Q (F0 m (pc + 3) ls rest)) : W p l e R s m args below meth c H locs cells slots Q (F0 m pc ls (.int v :: .ref (ad 2) :: rest)) := by
  obtain ⟨hx, hb, hml, hown, ⟨hK, hN⟩, hr, hlk⟩ := C
  exact va_put (D := D) (ci := 2) (v := .int v) (ty := .boolean) (C := RXS) (T := TXS) (N := 13) hx hb (tc_ht hN tc_in_XS) (fun _ h => h) tyXS tyXS_ok nmXS hown hK hP (hJ σ) hS 2 rfl rfl 10 (by decide) hw (fun _ h9 => h9) rfl (by decide +kernel) hz.1 hz.2 (Nat.le_of_ble_eq_true rfl) hdg (fun H1 locs1 h1 _ h3 => kk H1 locs1 h1 h3)
theorem tc_cp8 (C : tc_C p s m args meth c own cc nL ret D cA) (hJ : ∀ σ, va_D A (tc_cW ad cA σ)) (hP : va_P D vwCl (tc_cW ad cA σ) H) (hS : va_S A H0 H locs) (hw : (Cond.fieldLink own index "TwinConsole$SecondProcessor" "a" "I").before args s = true) (hdg : decode cc pc = .ok (.putfield index, 3)) (kk : ∀ (H1 : Heap) (locs1 : List Loc), va_P D vwCl (tc_cW ad cA (tc_sf σ 8 v)) H1 → va_S A H0 H1 locs1 → W p l e R s m args below meth c H1 locs1 cells slots Q (F0 m (pc + 3) ls rest)) : W p l e R s m args below meth c H locs cells slots Q (F0 m pc ls (.int v :: .ref (ad 2) :: rest)) := by
  obtain ⟨hx, hb, hml, hown, ⟨hK, hN⟩, hr, hlk⟩ := C
  exact va_put (D := D) (ci := 2) (v := .int v) (ty := .int) (C := RXS) (T := TXS) (N := 13) hx hb (tc_ht hN tc_in_XS) (fun _ h => h) tyXS tyXS_ok nmXS hown hK hP (hJ σ) hS 2 rfl rfl 2 (by decide) hw (fun _ h9 => h9) rfl (by decide +kernel) rfl rfl (Nat.le_of_ble_eq_true rfl) hdg (fun H1 locs1 h1 _ h3 => kk H1 locs1 h1 h3)
theorem tc_cp9 (C : tc_C p s m args meth c own cc nL ret D cA) (hJ : ∀ σ, va_D A (tc_cW ad cA σ)) (hP : va_P D vwCl (tc_cW ad cA σ) H) (hS : va_S A H0 H locs) (hw : (Cond.fieldLink own index "TwinConsole$SecondProcessor" "b" "I").before args s = true) (hdg : decode cc pc = .ok (.putfield index, 3)) (kk : ∀ (H1 : Heap) (locs1 : List Loc), va_P D vwCl (tc_cW ad cA (tc_sf σ 9 v)) H1 → va_S A H0 H1 locs1 → W p l e R s m args below meth c H1 locs1 cells slots Q (F0 m (pc + 3) ls rest)) : W p l e R s m args below meth c H locs cells slots Q (F0 m pc ls (.int v :: .ref (ad 2) :: rest)) := by
  obtain ⟨hx, hb, hml, hown, ⟨hK, hN⟩, hr, hlk⟩ := C
  exact va_put (D := D) (ci := 2) (v := .int v) (ty := .int) (C := RXS) (T := TXS) (N := 13) hx hb (tc_ht hN tc_in_XS) (fun _ h => h) tyXS tyXS_ok nmXS hown hK hP (hJ σ) hS 2 rfl rfl 3 (by decide) hw (fun _ h9 => h9) rfl (by decide +kernel) rfl rfl (Nat.le_of_ble_eq_true rfl) hdg (fun H1 locs1 h1 _ h3 => kk H1 locs1 h1 h3)
theorem tc_cp10 (C : tc_C p s m args meth c own cc nL ret D cA) (hJ : ∀ σ, va_D A (tc_cW ad cA σ)) (hP : va_P D vwCl (tc_cW ad cA σ) H) (hS : va_S A H0 H locs) (hw : (Cond.fieldLink own index "TwinConsole$SecondProcessor" "h" "I").before args s = true) (hdg : decode cc pc = .ok (.putfield index, 3)) (kk : ∀ (H1 : Heap) (locs1 : List Loc), va_P D vwCl (tc_cW ad cA (tc_sf σ 10 v)) H1 → va_S A H0 H1 locs1 → W p l e R s m args below meth c H1 locs1 cells slots Q (F0 m (pc + 3) ls rest)) : W p l e R s m args below meth c H locs cells slots Q (F0 m pc ls (.int v :: .ref (ad 2) :: rest)) := by
  obtain ⟨hx, hb, hml, hown, ⟨hK, hN⟩, hr, hlk⟩ := C
  exact va_put (D := D) (ci := 2) (v := .int v) (ty := .int) (C := RXS) (T := TXS) (N := 13) hx hb (tc_ht hN tc_in_XS) (fun _ h => h) tyXS tyXS_ok nmXS hown hK hP (hJ σ) hS 2 rfl rfl 4 (by decide) hw (fun _ h9 => h9) rfl (by decide +kernel) rfl rfl (Nat.le_of_ble_eq_true rfl) hdg (fun H1 locs1 h1 _ h3 => kk H1 locs1 h1 h3)
theorem tc_cp11 (C : tc_C p s m args meth c own cc nL ret D cA) (hJ : ∀ σ, va_D A (tc_cW ad cA σ)) (hP : va_P D vwCl (tc_cW ad cA σ) H) (hS : va_S A H0 H locs) (hw : (Cond.fieldLink own index "TwinConsole$SecondProcessor" "pc" "I").before args s = true) (hdg : decode cc pc = .ok (.putfield index, 3)) (kk : ∀ (H1 : Heap) (locs1 : List Loc), va_P D vwCl (tc_cW ad cA (tc_sf σ 11 v)) H1 → va_S A H0 H1 locs1 → W p l e R s m args below meth c H1 locs1 cells slots Q (F0 m (pc + 3) ls rest)) : W p l e R s m args below meth c H locs cells slots Q (F0 m pc ls (.int v :: .ref (ad 2) :: rest)) := by
  obtain ⟨hx, hb, hml, hown, ⟨hK, hN⟩, hr, hlk⟩ := C
  exact va_put (D := D) (ci := 2) (v := .int v) (ty := .int) (C := RXS) (T := TXS) (N := 13) hx hb (tc_ht hN tc_in_XS) (fun _ h => h) tyXS tyXS_ok nmXS hown hK hP (hJ σ) hS 2 rfl rfl 5 (by decide) hw (fun _ h9 => h9) rfl (by decide +kernel) rfl rfl (Nat.le_of_ble_eq_true rfl) hdg (fun H1 locs1 h1 _ h3 => kk H1 locs1 h1 h3)
theorem tc_cp12 (C : tc_C p s m args meth c own cc nL ret D cA) (hJ : ∀ σ, va_D A (tc_cW ad cA σ)) (hP : va_P D vwCl (tc_cW ad cA σ) H) (hS : va_S A H0 H locs) (hw : (Cond.fieldLink own index "TwinConsole$SecondProcessor" "zero" "Z").before args s = true) (hz : narrow .boolean (.int v) = .int v ∧ fits .boolean (.int v) = true) (hdg : decode cc pc = .ok (.putfield index, 3)) (kk : ∀ (H1 : Heap) (locs1 : List Loc), va_P D vwCl (tc_cW ad cA (tc_sf σ 12 v)) H1 → va_S A H0 H1 locs1 → W p l e R s m args below meth c H1 locs1 cells slots Q (F0 m (pc + 3) ls rest)) : W p l e R s m args below meth c H locs cells slots Q (F0 m pc ls (.int v :: .ref (ad 2) :: rest)) := by
  obtain ⟨hx, hb, hml, hown, ⟨hK, hN⟩, hr, hlk⟩ := C
  exact va_put (D := D) (ci := 2) (v := .int v) (ty := .boolean) (C := RXS) (T := TXS) (N := 13) hx hb (tc_ht hN tc_in_XS) (fun _ h => h) tyXS tyXS_ok nmXS hown hK hP (hJ σ) hS 2 rfl rfl 6 (by decide) hw (fun _ h9 => h9) rfl (by decide +kernel) hz.1 hz.2 (Nat.le_of_ble_eq_true rfl) hdg (fun H1 locs1 h1 _ h3 => kk H1 locs1 h1 h3)
theorem tc_cp13 (C : tc_C p s m args meth c own cc nL ret D cA) (hJ : ∀ σ, va_D A (tc_cW ad cA σ)) (hP : va_P D vwCl (tc_cW ad cA σ) H) (hS : va_S A H0 H locs) (hw : (Cond.fieldLink own index "TwinConsole$SecondProcessor" "halted" "Z").before args s = true) (hz : narrow .boolean (.int v) = .int v ∧ fits .boolean (.int v) = true) (hdg : decode cc pc = .ok (.putfield index, 3)) (kk : ∀ (H1 : Heap) (locs1 : List Loc), va_P D vwCl (tc_cW ad cA (tc_sf σ 13 v)) H1 → va_S A H0 H1 locs1 → W p l e R s m args below meth c H1 locs1 cells slots Q (F0 m (pc + 3) ls rest)) : W p l e R s m args below meth c H locs cells slots Q (F0 m pc ls (.int v :: .ref (ad 2) :: rest)) := by
  obtain ⟨hx, hb, hml, hown, ⟨hK, hN⟩, hr, hlk⟩ := C
  exact va_put (D := D) (ci := 2) (v := .int v) (ty := .boolean) (C := RXS) (T := TXS) (N := 13) hx hb (tc_ht hN tc_in_XS) (fun _ h => h) tyXS tyXS_ok nmXS hown hK hP (hJ σ) hS 2 rfl rfl 7 (by decide) hw (fun _ h9 => h9) rfl (by decide +kernel) hz.1 hz.2 (Nat.le_of_ble_eq_true rfl) hdg (fun H1 locs1 h1 _ h3 => kk H1 locs1 h1 h3)
theorem tc_cp14 (C : tc_C p s m args meth c own cc nL ret D cA) (hJ : ∀ σ, va_D A (tc_cW ad cA σ)) (hP : va_P D vwCl (tc_cW ad cA σ) H) (hS : va_S A H0 H locs) (hw : (Cond.fieldLink own index "TwinConsole$SecondProcessor" "letsIn" "Z").before args s = true) (hz : narrow .boolean (.int v) = .int v ∧ fits .boolean (.int v) = true) (hdg : decode cc pc = .ok (.putfield index, 3)) (kk : ∀ (H1 : Heap) (locs1 : List Loc), va_P D vwCl (tc_cW ad cA (tc_sf σ 14 v)) H1 → va_S A H0 H1 locs1 → W p l e R s m args below meth c H1 locs1 cells slots Q (F0 m (pc + 3) ls rest)) : W p l e R s m args below meth c H locs cells slots Q (F0 m pc ls (.int v :: .ref (ad 2) :: rest)) := by
  obtain ⟨hx, hb, hml, hown, ⟨hK, hN⟩, hr, hlk⟩ := C
  exact va_put (D := D) (ci := 2) (v := .int v) (ty := .boolean) (C := RXS) (T := TXS) (N := 13) hx hb (tc_ht hN tc_in_XS) (fun _ h => h) tyXS tyXS_ok nmXS hown hK hP (hJ σ) hS 2 rfl rfl 8 (by decide) hw (fun _ h9 => h9) rfl (by decide +kernel) hz.1 hz.2 (Nat.le_of_ble_eq_true rfl) hdg (fun H1 locs1 h1 _ h3 => kk H1 locs1 h1 h3)
theorem tc_cp17 (C : tc_C p s m args meth c own cc nL ret D cA) (hJ : ∀ σ, va_D A (tc_cW ad cA σ)) (hP : va_P D vwCl (tc_cW ad cA σ) H) (hS : va_S A H0 H locs) (hw : (Cond.fieldLink own index "TwinConsole$SecondProcessor" "cyclesLeft" "I").before args s = true) (hdg : decode cc pc = .ok (.putfield index, 3)) (kk : ∀ (H1 : Heap) (locs1 : List Loc), va_P D vwCl (tc_cW ad cA (tc_sf σ 17 v)) H1 → va_S A H0 H1 locs1 → W p l e R s m args below meth c H1 locs1 cells slots Q (F0 m (pc + 3) ls rest)) : W p l e R s m args below meth c H locs cells slots Q (F0 m pc ls (.int v :: .ref (ad 2) :: rest)) := by
  obtain ⟨hx, hb, hml, hown, ⟨hK, hN⟩, hr, hlk⟩ := C
  exact va_put (D := D) (ci := 2) (v := .int v) (ty := .int) (C := RXS) (T := TXS) (N := 13) hx hb (tc_ht hN tc_in_XS) (fun _ h => h) tyXS tyXS_ok nmXS hown hK hP (hJ σ) hS 2 rfl rfl 11 (by decide) hw (fun _ h9 => h9) rfl (by decide +kernel) rfl rfl (Nat.le_of_ble_eq_true rfl) hdg (fun H1 locs1 h1 _ h3 => kk H1 locs1 h1 h3)
theorem tc_cp33 (C : tc_C p s m args meth c own cc nL ret D cA) (hJ : ∀ σ, va_D A (tc_cW ad cA σ)) (hP : va_P D vwCl (tc_cW ad cA σ) H) (hS : va_S A H0 H locs) (hw : (Cond.fieldLink own index "TwinConsole$Bus" "padSelect" "I").before args s = true) (hdg : decode cc pc = .ok (.putfield index, 3)) (kk : ∀ (H1 : Heap) (locs1 : List Loc), va_P D vwCl (tc_cW ad cA (tc_sf σ 33 v)) H1 → va_S A H0 H1 locs1 → W p l e R s m args below meth c H1 locs1 cells slots Q (F0 m (pc + 3) ls rest)) : W p l e R s m args below meth c H locs cells slots Q (F0 m pc ls (.int v :: .ref (ad 6) :: rest)) := by
  obtain ⟨hx, hb, hml, hown, ⟨hK, hN⟩, hr, hlk⟩ := C
  exact va_put (D := D) (ci := 6) (v := .int v) (ty := .int) (C := RXU) (T := TXU) (N := 8) hx hb (tc_ht hN tc_in_XU) (fun _ h => h) tyXU tyXU_ok nmXU hown hK hP (hJ σ) hS 6 rfl rfl 7 (by decide) hw (fun _ h9 => h9) rfl (by decide +kernel) rfl rfl (Nat.le_of_ble_eq_true rfl) hdg (fun H1 locs1 h1 _ h3 => kk H1 locs1 h1 h3)
theorem tc_cst10 (C : tc_C p s m args meth c own cc nL ret D cA) (hJ : ∀ σ, va_D A (tc_cW ad cA σ)) (hP : va_P D vwCl (tc_cW ad cA σ) H) (hS : va_S A H0 H locs) (hi : vp_in i 128) (hdg : decode cc pc = .ok (.iastore, 1)) (kk : ∀ (H1 : Heap) (locs1 : List Loc), va_P D vwCl (tc_cW ad cA (tc_sa σ 1 i v)) H1 → va_S A H0 H1 locs1 → W p l e R s m args below meth c H1 locs1 cells slots Q (F0 m (pc + 1) ls rest)) : W p l e R s m args below meth c H locs cells slots Q (F0 m pc ls (.int v :: .int i :: .ref (ad 10) :: rest)) := by
  obtain ⟨hx, hb, hml, hown, ⟨hK, hN⟩, hr, hlk⟩ := C
  exact va_iast hx hb hK hP (hJ σ) hS 10 0 rfl rfl hi hdg (fun H1 locs1 h1 _ h3 => kk H1 locs1 h1 h3)
theorem tc_cst8 (C : tc_C p s m args meth c own cc nL ret D cA) (hJ : ∀ σ, va_D A (tc_cW ad cA σ)) (hP : va_P D vwCl (tc_cW ad cA σ) H) (hS : va_S A H0 H locs) (hi : vp_in i 64) (hdg : decode cc pc = .ok (.iastore, 1)) (kk : ∀ (H1 : Heap) (locs1 : List Loc), va_P D vwCl (tc_cW ad cA (tc_sa σ 8 i v)) H1 → va_S A H0 H1 locs1 → W p l e R s m args below meth c H1 locs1 cells slots Q (F0 m (pc + 1) ls rest)) : W p l e R s m args below meth c H locs cells slots Q (F0 m pc ls (.int v :: .int i :: .ref (ad 8) :: rest)) := by
  obtain ⟨hx, hb, hml, hown, ⟨hK, hN⟩, hr, hlk⟩ := C
  exact va_iast hx hb hK hP (hJ σ) hS 8 0 rfl rfl hi hdg (fun H1 locs1 h1 _ h3 => kk H1 locs1 h1 h3)
theorem tc_cld13 (C : tc_C p s m args meth c own cc nL ret D cA) (hP : va_P D vwCl (tc_cW ad cA σ) H) (hi : vp_in i 2) (hdg : decode cc pc = .ok (.iaload, 1)) (kk : W p l e R s m args below meth c H locs cells slots Q (F0 m (pc + 1) ls (.int (tc_ga σ 4 i) :: rest))) : W p l e R s m args below meth c H locs cells slots Q (F0 m pc ls (.int i :: .ref (ad 13) :: rest)) := by
  obtain ⟨hx, hb, hml, hown, ⟨hK, hN⟩, hr, hlk⟩ := C
  exact va_iald hx hb hK hP 13 0 rfl rfl hi hdg kk
theorem tc_cld12 (C : tc_C p s m args meth c own cc nL ret D cA) (hP : va_P D vwCl (tc_cW ad cA σ) H) (hi : vp_in i 16) (hdg : decode cc pc = .ok (.iaload, 1)) (kk : W p l e R s m args below meth c H locs cells slots Q (F0 m (pc + 1) ls (.int (tc_ga σ 3 i) :: rest))) : W p l e R s m args below meth c H locs cells slots Q (F0 m pc ls (.int i :: .ref (ad 12) :: rest)) := by
  obtain ⟨hx, hb, hml, hown, ⟨hK, hN⟩, hr, hlk⟩ := C
  exact va_iald hx hb hK hP 12 0 rfl rfl hi hdg kk
theorem tc_cpN21 (C : tc_C p s m args meth c own cc nL ret D cA) (hJ : ∀ σ, va_D A (tc_cW ad cA σ)) (hP : va_P D vwCl (tc_cW ad cA σ) H) (hS : va_S A H0 H locs) (hw : (Cond.fieldLinkNest own index "TwinConsole$PictureUnit" "wordWaitedFor" "Z" "TwinConsole").before args s = true) (hz : narrow .boolean (.int v) = .int v ∧ fits .boolean (.int v) = true) (hdg : decode cc pc = .ok (.putfield index, 3)) (kk : ∀ (H1 : Heap) (locs1 : List Loc), va_P D vwCl (tc_cW ad cA (tc_sf σ 21 v)) H1 → va_S A H0 H1 locs1 → W p l e R s m args below meth c H1 locs1 cells slots Q (F0 m (pc + 3) ls rest)) : W p l e R s m args below meth c H locs cells slots Q (F0 m pc ls (.int v :: .ref (ad 3) :: rest)) := by
  obtain ⟨hx, hb, hml, hown, ⟨hK, hN⟩, hr, hlk⟩ := C
  exact va_putN (D := D) (ci := 3) (v := .int v) (ty := .boolean) (C := RXP) (T := TXP) (N := 10) hx hb (tc_ht hN tc_in_XP) (fun _ h => h) tyXP tyXP_ok nmXP hown hK hP (hJ σ) hS 3 rfl rfl 6 (by decide) hw (fun _ h9 => h9) rfl (by decide +kernel) hz.1 hz.2 (Nat.le_of_ble_eq_true rfl) hdg (fun H1 locs1 h1 _ h3 => kk H1 locs1 h1 h3)
theorem tc_cr_XU_beam (C : tc_C p s m args meth c own cc nL ret D cA) (hP : va_P D vwCl (tc_cW ad cA σ) H) (hw : (Cond.fieldLink own index "TwinConsole$Bus" "beam" "LTwinConsole$Beam;").before args s = true) (hdg : decode cc pc = .ok (.getfield index, 3)) (kk : W p l e R s m args below meth c H locs cells slots Q (F0 m (pc + 3) ls (.ref (ad 4) :: rest))) : W p l e R s m args below meth c H locs cells slots Q (F0 m pc ls (.ref (ad 6) :: rest)) := by
  obtain ⟨hx, hb, hml, hown, ⟨hK, hN⟩, hr, hlk⟩ := C
  exact va_get (D := D) (ci := 6) (v := .ref (ad 4)) (C := RXU) (T := TXU) (N := 8) hx hb (tc_ht hN tc_in_XU) (fun _ h => h) hown hK hP 6 rfl rfl 5 (by decide) hw (fun _ h9 => h9) rfl hdg kk
theorem tc_cgN27 (C : tc_C p s m args meth c own cc nL ret D cA) (hP : va_P D vwCl (tc_cW ad cA σ) H) (hw : (Cond.fieldLinkNest own index "TwinConsole$Beam" "line" "I" "TwinConsole").before args s = true) (hdg : decode cc pc = .ok (.getfield index, 3)) (kk : W p l e R s m args below meth c H locs cells slots Q (F0 m (pc + 3) ls (.int (tc_gf σ 27) :: rest))) : W p l e R s m args below meth c H locs cells slots Q (F0 m pc ls (.ref (ad 4) :: rest)) := by
  obtain ⟨hx, hb, hml, hown, ⟨hK, hN⟩, hr, hlk⟩ := C
  exact va_getN (D := D) (ci := 4) (v := .int (tc_gf σ 27)) (C := RXB) (T := TXB) (N := 8) hx hb (tc_ht hN tc_in_XB) (fun _ h => h) hown hK hP 4 rfl rfl 3 (by decide) hw (fun _ h9 => h9) rfl hdg kk
theorem tc_cgN31 (C : tc_C p s m args meth c own cc nL ret D cA) (hP : va_P D vwCl (tc_cW ad cA σ) H) (hw : (Cond.fieldLinkNest own index "TwinConsole$Beam" "pending6" "Z" "TwinConsole").before args s = true) (hdg : decode cc pc = .ok (.getfield index, 3)) (kk : W p l e R s m args below meth c H locs cells slots Q (F0 m (pc + 3) ls (.int (tc_gf σ 31) :: rest))) : W p l e R s m args below meth c H locs cells slots Q (F0 m pc ls (.ref (ad 4) :: rest)) := by
  obtain ⟨hx, hb, hml, hown, ⟨hK, hN⟩, hr, hlk⟩ := C
  exact va_getN (D := D) (ci := 4) (v := .int (tc_gf σ 31)) (C := RXB) (T := TXB) (N := 8) hx hb (tc_ht hN tc_in_XB) (fun _ h => h) hown hK hP 4 rfl rfl 7 (by decide) hw (fun _ h9 => h9) rfl hdg kk
theorem tc_cr_XU_painter (C : tc_C p s m args meth c own cc nL ret D cA) (hP : va_P D vwCl (tc_cW ad cA σ) H) (hw : (Cond.fieldLink own index "TwinConsole$Bus" "painter" "LTwinConsole$Painter;").before args s = true) (hdg : decode cc pc = .ok (.getfield index, 3)) (kk : W p l e R s m args below meth c H locs cells slots Q (F0 m (pc + 3) ls (.ref (ad 5) :: rest))) : W p l e R s m args below meth c H locs cells slots Q (F0 m pc ls (.ref (ad 6) :: rest)) := by
  obtain ⟨hx, hb, hml, hown, ⟨hK, hN⟩, hr, hlk⟩ := C
  exact va_get (D := D) (ci := 6) (v := .ref (ad 5)) (C := RXU) (T := TXU) (N := 8) hx hb (tc_ht hN tc_in_XU) (fun _ h => h) hown hK hP 6 rfl rfl 4 (by decide) hw (fun _ h9 => h9) rfl hdg kk
theorem tc_cgN25 (C : tc_C p s m args meth c own cc nL ret D cA) (hP : va_P D vwCl (tc_cW ad cA σ) H) (hw : (Cond.fieldLinkNest own index "TwinConsole$Painter" "collided" "Z" "TwinConsole").before args s = true) (hdg : decode cc pc = .ok (.getfield index, 3)) (kk : W p l e R s m args below meth c H locs cells slots Q (F0 m (pc + 3) ls (.int (tc_gf σ 25) :: rest))) : W p l e R s m args below meth c H locs cells slots Q (F0 m pc ls (.ref (ad 5) :: rest)) := by
  obtain ⟨hx, hb, hml, hown, ⟨hK, hN⟩, hr, hlk⟩ := C
  exact va_getN (D := D) (ci := 5) (v := .int (tc_gf σ 25)) (C := RXD) (T := TXD) (N := 9) hx hb (tc_ht hN tc_in_XD) (fun _ h => h) hown hK hP 5 rfl rfl 7 (by decide) hw (fun _ h9 => h9) rfl hdg kk
theorem tc_cgN26 (C : tc_C p s m args meth c own cc nL ret D cA) (hP : va_P D vwCl (tc_cW ad cA σ) H) (hw : (Cond.fieldLinkNest own index "TwinConsole$Painter" "tooMany" "Z" "TwinConsole").before args s = true) (hdg : decode cc pc = .ok (.getfield index, 3)) (kk : W p l e R s m args below meth c H locs cells slots Q (F0 m (pc + 3) ls (.int (tc_gf σ 26) :: rest))) : W p l e R s m args below meth c H locs cells slots Q (F0 m pc ls (.ref (ad 5) :: rest)) := by
  obtain ⟨hx, hb, hml, hown, ⟨hK, hN⟩, hr, hlk⟩ := C
  exact va_getN (D := D) (ci := 5) (v := .int (tc_gf σ 26)) (C := RXD) (T := TXD) (N := 9) hx hb (tc_ht hN tc_in_XD) (fun _ h => h) hown hK hP 5 rfl rfl 8 (by decide) hw (fun _ h9 => h9) rfl hdg kk
theorem tc_cpN25 (C : tc_C p s m args meth c own cc nL ret D cA) (hJ : ∀ σ, va_D A (tc_cW ad cA σ)) (hP : va_P D vwCl (tc_cW ad cA σ) H) (hS : va_S A H0 H locs) (hw : (Cond.fieldLinkNest own index "TwinConsole$Painter" "collided" "Z" "TwinConsole").before args s = true) (hz : narrow .boolean (.int v) = .int v ∧ fits .boolean (.int v) = true) (hdg : decode cc pc = .ok (.putfield index, 3)) (kk : ∀ (H1 : Heap) (locs1 : List Loc), va_P D vwCl (tc_cW ad cA (tc_sf σ 25 v)) H1 → va_S A H0 H1 locs1 → W p l e R s m args below meth c H1 locs1 cells slots Q (F0 m (pc + 3) ls rest)) : W p l e R s m args below meth c H locs cells slots Q (F0 m pc ls (.int v :: .ref (ad 5) :: rest)) := by
  obtain ⟨hx, hb, hml, hown, ⟨hK, hN⟩, hr, hlk⟩ := C
  exact va_putN (D := D) (ci := 5) (v := .int v) (ty := .boolean) (C := RXD) (T := TXD) (N := 9) hx hb (tc_ht hN tc_in_XD) (fun _ h => h) tyXD tyXD_ok nmXD hown hK hP (hJ σ) hS 5 rfl rfl 7 (by decide) hw (fun _ h9 => h9) rfl (by decide +kernel) hz.1 hz.2 (Nat.le_of_ble_eq_true rfl) hdg (fun H1 locs1 h1 _ h3 => kk H1 locs1 h1 h3)
theorem tc_cpN26 (C : tc_C p s m args meth c own cc nL ret D cA) (hJ : ∀ σ, va_D A (tc_cW ad cA σ)) (hP : va_P D vwCl (tc_cW ad cA σ) H) (hS : va_S A H0 H locs) (hw : (Cond.fieldLinkNest own index "TwinConsole$Painter" "tooMany" "Z" "TwinConsole").before args s = true) (hz : narrow .boolean (.int v) = .int v ∧ fits .boolean (.int v) = true) (hdg : decode cc pc = .ok (.putfield index, 3)) (kk : ∀ (H1 : Heap) (locs1 : List Loc), va_P D vwCl (tc_cW ad cA (tc_sf σ 26 v)) H1 → va_S A H0 H1 locs1 → W p l e R s m args below meth c H1 locs1 cells slots Q (F0 m (pc + 3) ls rest)) : W p l e R s m args below meth c H locs cells slots Q (F0 m pc ls (.int v :: .ref (ad 5) :: rest)) := by
  obtain ⟨hx, hb, hml, hown, ⟨hK, hN⟩, hr, hlk⟩ := C
  exact va_putN (D := D) (ci := 5) (v := .int v) (ty := .boolean) (C := RXD) (T := TXD) (N := 9) hx hb (tc_ht hN tc_in_XD) (fun _ h => h) tyXD tyXD_ok nmXD hown hK hP (hJ σ) hS 5 rfl rfl 8 (by decide) hw (fun _ h9 => h9) rfl (by decide +kernel) hz.1 hz.2 (Nat.le_of_ble_eq_true rfl) hdg (fun H1 locs1 h1 _ h3 => kk H1 locs1 h1 h3)
theorem tc_cgN28 (C : tc_C p s m args meth c own cc nL ret D cA) (hP : va_P D vwCl (tc_cW ad cA σ) H) (hw : (Cond.fieldLinkNest own index "TwinConsole$Beam" "cycle" "I" "TwinConsole").before args s = true) (hdg : decode cc pc = .ok (.getfield index, 3)) (kk : W p l e R s m args below meth c H locs cells slots Q (F0 m (pc + 3) ls (.int (tc_gf σ 28) :: rest))) : W p l e R s m args below meth c H locs cells slots Q (F0 m pc ls (.ref (ad 4) :: rest)) := by
  obtain ⟨hx, hb, hml, hown, ⟨hK, hN⟩, hr, hlk⟩ := C
  exact va_getN (D := D) (ci := 4) (v := .int (tc_gf σ 28)) (C := RXB) (T := TXB) (N := 8) hx hb (tc_ht hN tc_in_XB) (fun _ h => h) hown hK hP 4 rfl rfl 4 (by decide) hw (fun _ h9 => h9) rfl hdg kk
theorem tc_cgN15 (C : tc_C p s m args meth c own cc nL ret D cA) (hP : va_P D vwCl (tc_cW ad cA σ) H) (hw : (Cond.fieldLinkNest own index "TwinConsole$SecondProcessor" "held" "Z" "TwinConsole").before args s = true) (hdg : decode cc pc = .ok (.getfield index, 3)) (kk : W p l e R s m args below meth c H locs cells slots Q (F0 m (pc + 3) ls (.int (tc_gf σ 15) :: rest))) : W p l e R s m args below meth c H locs cells slots Q (F0 m pc ls (.ref (ad 2) :: rest)) := by
  obtain ⟨hx, hb, hml, hown, ⟨hK, hN⟩, hr, hlk⟩ := C
  exact va_getN (D := D) (ci := 2) (v := .int (tc_gf σ 15)) (C := RXS) (T := TXS) (N := 13) hx hb (tc_ht hN tc_in_XS) (fun _ h => h) hown hK hP 2 rfl rfl 9 (by decide) hw (fun _ h9 => h9) rfl hdg kk
theorem tc_cg33 (C : tc_C p s m args meth c own cc nL ret D cA) (hP : va_P D vwCl (tc_cW ad cA σ) H) (hw : (Cond.fieldLink own index "TwinConsole$Bus" "padSelect" "I").before args s = true) (hdg : decode cc pc = .ok (.getfield index, 3)) (kk : W p l e R s m args below meth c H locs cells slots Q (F0 m (pc + 3) ls (.int (tc_gf σ 33) :: rest))) : W p l e R s m args below meth c H locs cells slots Q (F0 m pc ls (.ref (ad 6) :: rest)) := by
  obtain ⟨hx, hb, hml, hown, ⟨hK, hN⟩, hr, hlk⟩ := C
  exact va_get (D := D) (ci := 6) (v := .int (tc_gf σ 33)) (C := RXU) (T := TXU) (N := 8) hx hb (tc_ht hN tc_in_XU) (fun _ h => h) hown hK hP 6 rfl rfl 7 (by decide) hw (fun _ h9 => h9) rfl hdg kk
theorem tc_cg32 (C : tc_C p s m args meth c own cc nL ret D cA) (hP : va_P D vwCl (tc_cW ad cA σ) H) (hw : (Cond.fieldLink own index "TwinConsole$Bus" "padKeys" "I").before args s = true) (hdg : decode cc pc = .ok (.getfield index, 3)) (kk : W p l e R s m args below meth c H locs cells slots Q (F0 m (pc + 3) ls (.int (tc_gf σ 32) :: rest))) : W p l e R s m args below meth c H locs cells slots Q (F0 m pc ls (.ref (ad 6) :: rest)) := by
  obtain ⟨hx, hb, hml, hown, ⟨hK, hN⟩, hr, hlk⟩ := C
  exact va_get (D := D) (ci := 6) (v := .int (tc_gf σ 32)) (C := RXU) (T := TXU) (N := 8) hx hb (tc_ht hN tc_in_XU) (fun _ h => h) hown hK hP 6 rfl rfl 6 (by decide) hw (fun _ h9 => h9) rfl hdg kk
theorem tc_cg0 (C : tc_C p s m args meth c own cc nL ret D cA) (hP : va_P D vwCl (tc_cW ad cA σ) H) (hw : (Cond.fieldLink own index "TwinConsole$MainProcessor" "s" "I").before args s = true) (hdg : decode cc pc = .ok (.getfield index, 3)) (kk : W p l e R s m args below meth c H locs cells slots Q (F0 m (pc + 3) ls (.int (tc_gf σ 0) :: rest))) : W p l e R s m args below meth c H locs cells slots Q (F0 m pc ls (.ref (ad 1) :: rest)) := by
  obtain ⟨hx, hb, hml, hown, ⟨hK, hN⟩, hr, hlk⟩ := C
  exact va_get (D := D) (ci := 1) (v := .int (tc_gf σ 0)) (C := RXM) (T := TXM) (N := 10) hx hb (tc_ht hN tc_in_XM) (fun _ h => h) hown hK hP 1 rfl rfl 2 (by decide) hw (fun _ h9 => h9) rfl hdg kk
theorem tc_cg2 (C : tc_C p s m args meth c own cc nL ret D cA) (hP : va_P D vwCl (tc_cW ad cA σ) H) (hw : (Cond.fieldLink own index "TwinConsole$MainProcessor" "mask" "I").before args s = true) (hdg : decode cc pc = .ok (.getfield index, 3)) (kk : W p l e R s m args below meth c H locs cells slots Q (F0 m (pc + 3) ls (.int (tc_gf σ 2) :: rest))) : W p l e R s m args below meth c H locs cells slots Q (F0 m pc ls (.ref (ad 1) :: rest)) := by
  obtain ⟨hx, hb, hml, hown, ⟨hK, hN⟩, hr, hlk⟩ := C
  exact va_get (D := D) (ci := 1) (v := .int (tc_gf σ 2)) (C := RXM) (T := TXM) (N := 10) hx hb (tc_ht hN tc_in_XM) (fun _ h => h) hown hK hP 1 rfl rfl 4 (by decide) hw (fun _ h9 => h9) rfl hdg kk
theorem tc_cg3 (C : tc_C p s m args meth c own cc nL ret D cA) (hP : va_P D vwCl (tc_cW ad cA σ) H) (hw : (Cond.fieldLink own index "TwinConsole$MainProcessor" "negative" "Z").before args s = true) (hdg : decode cc pc = .ok (.getfield index, 3)) (kk : W p l e R s m args below meth c H locs cells slots Q (F0 m (pc + 3) ls (.int (tc_gf σ 3) :: rest))) : W p l e R s m args below meth c H locs cells slots Q (F0 m pc ls (.ref (ad 1) :: rest)) := by
  obtain ⟨hx, hb, hml, hown, ⟨hK, hN⟩, hr, hlk⟩ := C
  exact va_get (D := D) (ci := 1) (v := .int (tc_gf σ 3)) (C := RXM) (T := TXM) (N := 10) hx hb (tc_ht hN tc_in_XM) (fun _ h => h) hown hK hP 1 rfl rfl 5 (by decide) hw (fun _ h9 => h9) rfl hdg kk
theorem tc_cg4 (C : tc_C p s m args meth c own cc nL ret D cA) (hP : va_P D vwCl (tc_cW ad cA σ) H) (hw : (Cond.fieldLink own index "TwinConsole$MainProcessor" "zero" "Z").before args s = true) (hdg : decode cc pc = .ok (.getfield index, 3)) (kk : W p l e R s m args below meth c H locs cells slots Q (F0 m (pc + 3) ls (.int (tc_gf σ 4) :: rest))) : W p l e R s m args below meth c H locs cells slots Q (F0 m pc ls (.ref (ad 1) :: rest)) := by
  obtain ⟨hx, hb, hml, hown, ⟨hK, hN⟩, hr, hlk⟩ := C
  exact va_get (D := D) (ci := 1) (v := .int (tc_gf σ 4)) (C := RXM) (T := TXM) (N := 10) hx hb (tc_ht hN tc_in_XM) (fun _ h => h) hown hK hP 1 rfl rfl 6 (by decide) hw (fun _ h9 => h9) rfl hdg kk
theorem tc_cg5 (C : tc_C p s m args meth c own cc nL ret D cA) (hP : va_P D vwCl (tc_cW ad cA σ) H) (hw : (Cond.fieldLink own index "TwinConsole$MainProcessor" "overflow" "Z").before args s = true) (hdg : decode cc pc = .ok (.getfield index, 3)) (kk : W p l e R s m args below meth c H locs cells slots Q (F0 m (pc + 3) ls (.int (tc_gf σ 5) :: rest))) : W p l e R s m args below meth c H locs cells slots Q (F0 m pc ls (.ref (ad 1) :: rest)) := by
  obtain ⟨hx, hb, hml, hown, ⟨hK, hN⟩, hr, hlk⟩ := C
  exact va_get (D := D) (ci := 1) (v := .int (tc_gf σ 5)) (C := RXM) (T := TXM) (N := 10) hx hb (tc_ht hN tc_in_XM) (fun _ h => h) hown hK hP 1 rfl rfl 7 (by decide) hw (fun _ h9 => h9) rfl hdg kk
theorem tc_cg6 (C : tc_C p s m args meth c own cc nL ret D cA) (hP : va_P D vwCl (tc_cW ad cA σ) H) (hw : (Cond.fieldLink own index "TwinConsole$MainProcessor" "carry" "Z").before args s = true) (hdg : decode cc pc = .ok (.getfield index, 3)) (kk : W p l e R s m args below meth c H locs cells slots Q (F0 m (pc + 3) ls (.int (tc_gf σ 6) :: rest))) : W p l e R s m args below meth c H locs cells slots Q (F0 m pc ls (.ref (ad 1) :: rest)) := by
  obtain ⟨hx, hb, hml, hown, ⟨hK, hN⟩, hr, hlk⟩ := C
  exact va_get (D := D) (ci := 1) (v := .int (tc_gf σ 6)) (C := RXM) (T := TXM) (N := 10) hx hb (tc_ht hN tc_in_XM) (fun _ h => h) hown hK hP 1 rfl rfl 8 (by decide) hw (fun _ h9 => h9) rfl hdg kk
theorem tc_cg17 (C : tc_C p s m args meth c own cc nL ret D cA) (hP : va_P D vwCl (tc_cW ad cA σ) H) (hw : (Cond.fieldLink own index "TwinConsole$SecondProcessor" "cyclesLeft" "I").before args s = true) (hdg : decode cc pc = .ok (.getfield index, 3)) (kk : W p l e R s m args below meth c H locs cells slots Q (F0 m (pc + 3) ls (.int (tc_gf σ 17) :: rest))) : W p l e R s m args below meth c H locs cells slots Q (F0 m pc ls (.ref (ad 2) :: rest)) := by
  obtain ⟨hx, hb, hml, hown, ⟨hK, hN⟩, hr, hlk⟩ := C
  exact va_get (D := D) (ci := 2) (v := .int (tc_gf σ 17)) (C := RXS) (T := TXS) (N := 13) hx hb (tc_ht hN tc_in_XS) (fun _ h => h) hown hK hP 2 rfl rfl 11 (by decide) hw (fun _ h9 => h9) rfl hdg kk
theorem tc_cg13 (C : tc_C p s m args meth c own cc nL ret D cA) (hP : va_P D vwCl (tc_cW ad cA σ) H) (hw : (Cond.fieldLink own index "TwinConsole$SecondProcessor" "halted" "Z").before args s = true) (hdg : decode cc pc = .ok (.getfield index, 3)) (kk : W p l e R s m args below meth c H locs cells slots Q (F0 m (pc + 3) ls (.int (tc_gf σ 13) :: rest))) : W p l e R s m args below meth c H locs cells slots Q (F0 m pc ls (.ref (ad 2) :: rest)) := by
  obtain ⟨hx, hb, hml, hown, ⟨hK, hN⟩, hr, hlk⟩ := C
  exact va_get (D := D) (ci := 2) (v := .int (tc_gf σ 13)) (C := RXS) (T := TXS) (N := 13) hx hb (tc_ht hN tc_in_XS) (fun _ h => h) hown hK hP 2 rfl rfl 7 (by decide) hw (fun _ h9 => h9) rfl hdg kk
theorem tc_cg11 (C : tc_C p s m args meth c own cc nL ret D cA) (hP : va_P D vwCl (tc_cW ad cA σ) H) (hw : (Cond.fieldLink own index "TwinConsole$SecondProcessor" "pc" "I").before args s = true) (hdg : decode cc pc = .ok (.getfield index, 3)) (kk : W p l e R s m args below meth c H locs cells slots Q (F0 m (pc + 3) ls (.int (tc_gf σ 11) :: rest))) : W p l e R s m args below meth c H locs cells slots Q (F0 m pc ls (.ref (ad 2) :: rest)) := by
  obtain ⟨hx, hb, hml, hown, ⟨hK, hN⟩, hr, hlk⟩ := C
  exact va_get (D := D) (ci := 2) (v := .int (tc_gf σ 11)) (C := RXS) (T := TXS) (N := 13) hx hb (tc_ht hN tc_in_XS) (fun _ h => h) hown hK hP 2 rfl rfl 5 (by decide) hw (fun _ h9 => h9) rfl hdg kk
theorem tc_cr_XS_romWords (C : tc_C p s m args meth c own cc nL ret D cA) (hP : va_P D vwCl (tc_cW ad cA σ) H) (hw : (Cond.fieldLink own index "TwinConsole$SecondProcessor" "romWords" "[I").before args s = true) (hdg : decode cc pc = .ok (.getfield index, 3)) (kk : W p l e R s m args below meth c H locs cells slots Q (F0 m (pc + 3) ls (.ref (ad 7) :: rest))) : W p l e R s m args below meth c H locs cells slots Q (F0 m pc ls (.ref (ad 2) :: rest)) := by
  obtain ⟨hx, hb, hml, hown, ⟨hK, hN⟩, hr, hlk⟩ := C
  exact va_get (D := D) (ci := 2) (v := .ref (ad 7)) (C := RXS) (T := TXS) (N := 13) hx hb (tc_ht hN tc_in_XS) (fun _ h => h) hown hK hP 2 rfl rfl 0 (by decide) hw (fun _ h9 => h9) rfl hdg kk
theorem tc_cr_XS_ram (C : tc_C p s m args meth c own cc nL ret D cA) (hP : va_P D vwCl (tc_cW ad cA σ) H) (hw : (Cond.fieldLink own index "TwinConsole$SecondProcessor" "ram" "[I").before args s = true) (hdg : decode cc pc = .ok (.getfield index, 3)) (kk : W p l e R s m args below meth c H locs cells slots Q (F0 m (pc + 3) ls (.ref (ad 10) :: rest))) : W p l e R s m args below meth c H locs cells slots Q (F0 m pc ls (.ref (ad 2) :: rest)) := by
  obtain ⟨hx, hb, hml, hown, ⟨hK, hN⟩, hr, hlk⟩ := C
  exact va_get (D := D) (ci := 2) (v := .ref (ad 10)) (C := RXS) (T := TXS) (N := 13) hx hb (tc_ht hN tc_in_XS) (fun _ h => h) hown hK hP 2 rfl rfl 1 (by decide) hw (fun _ h9 => h9) rfl hdg kk
theorem tc_cg12 (C : tc_C p s m args meth c own cc nL ret D cA) (hP : va_P D vwCl (tc_cW ad cA σ) H) (hw : (Cond.fieldLink own index "TwinConsole$SecondProcessor" "zero" "Z").before args s = true) (hdg : decode cc pc = .ok (.getfield index, 3)) (kk : W p l e R s m args below meth c H locs cells slots Q (F0 m (pc + 3) ls (.int (tc_gf σ 12) :: rest))) : W p l e R s m args below meth c H locs cells slots Q (F0 m pc ls (.ref (ad 2) :: rest)) := by
  obtain ⟨hx, hb, hml, hown, ⟨hK, hN⟩, hr, hlk⟩ := C
  exact va_get (D := D) (ci := 2) (v := .int (tc_gf σ 12)) (C := RXS) (T := TXS) (N := 13) hx hb (tc_ht hN tc_in_XS) (fun _ h => h) hown hK hP 2 rfl rfl 6 (by decide) hw (fun _ h9 => h9) rfl hdg kk
theorem tc_cg8 (C : tc_C p s m args meth c own cc nL ret D cA) (hP : va_P D vwCl (tc_cW ad cA σ) H) (hw : (Cond.fieldLink own index "TwinConsole$SecondProcessor" "a" "I").before args s = true) (hdg : decode cc pc = .ok (.getfield index, 3)) (kk : W p l e R s m args below meth c H locs cells slots Q (F0 m (pc + 3) ls (.int (tc_gf σ 8) :: rest))) : W p l e R s m args below meth c H locs cells slots Q (F0 m pc ls (.ref (ad 2) :: rest)) := by
  obtain ⟨hx, hb, hml, hown, ⟨hK, hN⟩, hr, hlk⟩ := C
  exact va_get (D := D) (ci := 2) (v := .int (tc_gf σ 8)) (C := RXS) (T := TXS) (N := 13) hx hb (tc_ht hN tc_in_XS) (fun _ h => h) hown hK hP 2 rfl rfl 2 (by decide) hw (fun _ h9 => h9) rfl hdg kk
theorem tc_cg9 (C : tc_C p s m args meth c own cc nL ret D cA) (hP : va_P D vwCl (tc_cW ad cA σ) H) (hw : (Cond.fieldLink own index "TwinConsole$SecondProcessor" "b" "I").before args s = true) (hdg : decode cc pc = .ok (.getfield index, 3)) (kk : W p l e R s m args below meth c H locs cells slots Q (F0 m (pc + 3) ls (.int (tc_gf σ 9) :: rest))) : W p l e R s m args below meth c H locs cells slots Q (F0 m pc ls (.ref (ad 2) :: rest)) := by
  obtain ⟨hx, hb, hml, hown, ⟨hK, hN⟩, hr, hlk⟩ := C
  exact va_get (D := D) (ci := 2) (v := .int (tc_gf σ 9)) (C := RXS) (T := TXS) (N := 13) hx hb (tc_ht hN tc_in_XS) (fun _ h => h) hown hK hP 2 rfl rfl 3 (by decide) hw (fun _ h9 => h9) rfl hdg kk
theorem tc_cg10 (C : tc_C p s m args meth c own cc nL ret D cA) (hP : va_P D vwCl (tc_cW ad cA σ) H) (hw : (Cond.fieldLink own index "TwinConsole$SecondProcessor" "h" "I").before args s = true) (hdg : decode cc pc = .ok (.getfield index, 3)) (kk : W p l e R s m args below meth c H locs cells slots Q (F0 m (pc + 3) ls (.int (tc_gf σ 10) :: rest))) : W p l e R s m args below meth c H locs cells slots Q (F0 m pc ls (.ref (ad 2) :: rest)) := by
  obtain ⟨hx, hb, hml, hown, ⟨hK, hN⟩, hr, hlk⟩ := C
  exact va_get (D := D) (ci := 2) (v := .int (tc_gf σ 10)) (C := RXS) (T := TXS) (N := 13) hx hb (tc_ht hN tc_in_XS) (fun _ h => h) hown hK hP 2 rfl rfl 4 (by decide) hw (fun _ h9 => h9) rfl hdg kk
theorem tc_cg28 (C : tc_C p s m args meth c own cc nL ret D cA) (hP : va_P D vwCl (tc_cW ad cA σ) H) (hw : (Cond.fieldLink own index "TwinConsole$Beam" "cycle" "I").before args s = true) (hdg : decode cc pc = .ok (.getfield index, 3)) (kk : W p l e R s m args below meth c H locs cells slots Q (F0 m (pc + 3) ls (.int (tc_gf σ 28) :: rest))) : W p l e R s m args below meth c H locs cells slots Q (F0 m pc ls (.ref (ad 4) :: rest)) := by
  obtain ⟨hx, hb, hml, hown, ⟨hK, hN⟩, hr, hlk⟩ := C
  exact va_get (D := D) (ci := 4) (v := .int (tc_gf σ 28)) (C := RXB) (T := TXB) (N := 8) hx hb (tc_ht hN tc_in_XB) (fun _ h => h) hown hK hP 4 rfl rfl 4 (by decide) hw (fun _ h9 => h9) rfl hdg kk
theorem tc_cp28 (C : tc_C p s m args meth c own cc nL ret D cA) (hJ : ∀ σ, va_D A (tc_cW ad cA σ)) (hP : va_P D vwCl (tc_cW ad cA σ) H) (hS : va_S A H0 H locs) (hw : (Cond.fieldLink own index "TwinConsole$Beam" "cycle" "I").before args s = true) (hdg : decode cc pc = .ok (.putfield index, 3)) (kk : ∀ (H1 : Heap) (locs1 : List Loc), va_P D vwCl (tc_cW ad cA (tc_sf σ 28 v)) H1 → va_S A H0 H1 locs1 → W p l e R s m args below meth c H1 locs1 cells slots Q (F0 m (pc + 3) ls rest)) : W p l e R s m args below meth c H locs cells slots Q (F0 m pc ls (.int v :: .ref (ad 4) :: rest)) := by
  obtain ⟨hx, hb, hml, hown, ⟨hK, hN⟩, hr, hlk⟩ := C
  exact va_put (D := D) (ci := 4) (v := .int v) (ty := .int) (C := RXB) (T := TXB) (N := 8) hx hb (tc_ht hN tc_in_XB) (fun _ h => h) tyXB tyXB_ok nmXB hown hK hP (hJ σ) hS 4 rfl rfl 4 (by decide) hw (fun _ h9 => h9) rfl (by decide +kernel) rfl rfl (Nat.le_of_ble_eq_true rfl) hdg (fun H1 locs1 h1 _ h3 => kk H1 locs1 h1 h3)
theorem tc_cg27 (C : tc_C p s m args meth c own cc nL ret D cA) (hP : va_P D vwCl (tc_cW ad cA σ) H) (hw : (Cond.fieldLink own index "TwinConsole$Beam" "line" "I").before args s = true) (hdg : decode cc pc = .ok (.getfield index, 3)) (kk : W p l e R s m args below meth c H locs cells slots Q (F0 m (pc + 3) ls (.int (tc_gf σ 27) :: rest))) : W p l e R s m args below meth c H locs cells slots Q (F0 m pc ls (.ref (ad 4) :: rest)) := by
  obtain ⟨hx, hb, hml, hown, ⟨hK, hN⟩, hr, hlk⟩ := C
  exact va_get (D := D) (ci := 4) (v := .int (tc_gf σ 27)) (C := RXB) (T := TXB) (N := 8) hx hb (tc_ht hN tc_in_XB) (fun _ h => h) hown hK hP 4 rfl rfl 3 (by decide) hw (fun _ h9 => h9) rfl hdg kk
theorem tc_cp27 (C : tc_C p s m args meth c own cc nL ret D cA) (hJ : ∀ σ, va_D A (tc_cW ad cA σ)) (hP : va_P D vwCl (tc_cW ad cA σ) H) (hS : va_S A H0 H locs) (hw : (Cond.fieldLink own index "TwinConsole$Beam" "line" "I").before args s = true) (hdg : decode cc pc = .ok (.putfield index, 3)) (kk : ∀ (H1 : Heap) (locs1 : List Loc), va_P D vwCl (tc_cW ad cA (tc_sf σ 27 v)) H1 → va_S A H0 H1 locs1 → W p l e R s m args below meth c H1 locs1 cells slots Q (F0 m (pc + 3) ls rest)) : W p l e R s m args below meth c H locs cells slots Q (F0 m pc ls (.int v :: .ref (ad 4) :: rest)) := by
  obtain ⟨hx, hb, hml, hown, ⟨hK, hN⟩, hr, hlk⟩ := C
  exact va_put (D := D) (ci := 4) (v := .int v) (ty := .int) (C := RXB) (T := TXB) (N := 8) hx hb (tc_ht hN tc_in_XB) (fun _ h => h) tyXB tyXB_ok nmXB hown hK hP (hJ σ) hS 4 rfl rfl 3 (by decide) hw (fun _ h9 => h9) rfl (by decide +kernel) rfl rfl (Nat.le_of_ble_eq_true rfl) hdg (fun H1 locs1 h1 _ h3 => kk H1 locs1 h1 h3)
theorem tc_cr_XB_picture (C : tc_C p s m args meth c own cc nL ret D cA) (hP : va_P D vwCl (tc_cW ad cA σ) H) (hw : (Cond.fieldLink own index "TwinConsole$Beam" "picture" "LTwinConsole$PictureUnit;").before args s = true) (hdg : decode cc pc = .ok (.getfield index, 3)) (kk : W p l e R s m args below meth c H locs cells slots Q (F0 m (pc + 3) ls (.ref (ad 3) :: rest))) : W p l e R s m args below meth c H locs cells slots Q (F0 m pc ls (.ref (ad 4) :: rest)) := by
  obtain ⟨hx, hb, hml, hown, ⟨hK, hN⟩, hr, hlk⟩ := C
  exact va_get (D := D) (ci := 4) (v := .ref (ad 3)) (C := RXB) (T := TXB) (N := 8) hx hb (tc_ht hN tc_in_XB) (fun _ h => h) hown hK hP 4 rfl rfl 0 (by decide) hw (fun _ h9 => h9) rfl hdg kk
theorem tc_crN_XP_registers (C : tc_C p s m args meth c own cc nL ret D cA) (hP : va_P D vwCl (tc_cW ad cA σ) H) (hw : (Cond.fieldLinkNest own index "TwinConsole$PictureUnit" "registers" "[I" "TwinConsole").before args s = true) (hdg : decode cc pc = .ok (.getfield index, 3)) (kk : W p l e R s m args below meth c H locs cells slots Q (F0 m (pc + 3) ls (.ref (ad 14) :: rest))) : W p l e R s m args below meth c H locs cells slots Q (F0 m pc ls (.ref (ad 3) :: rest)) := by
  obtain ⟨hx, hb, hml, hown, ⟨hK, hN⟩, hr, hlk⟩ := C
  exact va_getN (D := D) (ci := 3) (v := .ref (ad 14)) (C := RXP) (T := TXP) (N := 10) hx hb (tc_ht hN tc_in_XP) (fun _ h => h) hown hK hP 3 rfl rfl 3 (by decide) hw (fun _ h9 => h9) rfl hdg kk
theorem tc_cp29 (C : tc_C p s m args meth c own cc nL ret D cA) (hJ : ∀ σ, va_D A (tc_cW ad cA σ)) (hP : va_P D vwCl (tc_cW ad cA σ) H) (hS : va_S A H0 H locs) (hw : (Cond.fieldLink own index "TwinConsole$Beam" "counter" "I").before args s = true) (hdg : decode cc pc = .ok (.putfield index, 3)) (kk : ∀ (H1 : Heap) (locs1 : List Loc), va_P D vwCl (tc_cW ad cA (tc_sf σ 29 v)) H1 → va_S A H0 H1 locs1 → W p l e R s m args below meth c H1 locs1 cells slots Q (F0 m (pc + 3) ls rest)) : W p l e R s m args below meth c H locs cells slots Q (F0 m pc ls (.int v :: .ref (ad 4) :: rest)) := by
  obtain ⟨hx, hb, hml, hown, ⟨hK, hN⟩, hr, hlk⟩ := C
  exact va_put (D := D) (ci := 4) (v := .int v) (ty := .int) (C := RXB) (T := TXB) (N := 8) hx hb (tc_ht hN tc_in_XB) (fun _ h => h) tyXB tyXB_ok nmXB hown hK hP (hJ σ) hS 4 rfl rfl 5 (by decide) hw (fun _ h9 => h9) rfl (by decide +kernel) rfl rfl (Nat.le_of_ble_eq_true rfl) hdg (fun H1 locs1 h1 _ h3 => kk H1 locs1 h1 h3)
theorem tc_cp31 (C : tc_C p s m args meth c own cc nL ret D cA) (hJ : ∀ σ, va_D A (tc_cW ad cA σ)) (hP : va_P D vwCl (tc_cW ad cA σ) H) (hS : va_S A H0 H locs) (hw : (Cond.fieldLink own index "TwinConsole$Beam" "pending6" "Z").before args s = true) (hz : narrow .boolean (.int v) = .int v ∧ fits .boolean (.int v) = true) (hdg : decode cc pc = .ok (.putfield index, 3)) (kk : ∀ (H1 : Heap) (locs1 : List Loc), va_P D vwCl (tc_cW ad cA (tc_sf σ 31 v)) H1 → va_S A H0 H1 locs1 → W p l e R s m args below meth c H1 locs1 cells slots Q (F0 m (pc + 3) ls rest)) : W p l e R s m args below meth c H locs cells slots Q (F0 m pc ls (.int v :: .ref (ad 4) :: rest)) := by
  obtain ⟨hx, hb, hml, hown, ⟨hK, hN⟩, hr, hlk⟩ := C
  exact va_put (D := D) (ci := 4) (v := .int v) (ty := .boolean) (C := RXB) (T := TXB) (N := 8) hx hb (tc_ht hN tc_in_XB) (fun _ h => h) tyXB tyXB_ok nmXB hown hK hP (hJ σ) hS 4 rfl rfl 7 (by decide) hw (fun _ h9 => h9) rfl (by decide +kernel) hz.1 hz.2 (Nat.le_of_ble_eq_true rfl) hdg (fun H1 locs1 h1 _ h3 => kk H1 locs1 h1 h3)
theorem tc_cr_XB_second (C : tc_C p s m args meth c own cc nL ret D cA) (hP : va_P D vwCl (tc_cW ad cA σ) H) (hw : (Cond.fieldLink own index "TwinConsole$Beam" "second" "LTwinConsole$SecondProcessor;").before args s = true) (hdg : decode cc pc = .ok (.getfield index, 3)) (kk : W p l e R s m args below meth c H locs cells slots Q (F0 m (pc + 3) ls (.ref (ad 2) :: rest))) : W p l e R s m args below meth c H locs cells slots Q (F0 m pc ls (.ref (ad 4) :: rest)) := by
  obtain ⟨hx, hb, hml, hown, ⟨hK, hN⟩, hr, hlk⟩ := C
  exact va_get (D := D) (ci := 4) (v := .ref (ad 2)) (C := RXB) (T := TXB) (N := 8) hx hb (tc_ht hN tc_in_XB) (fun _ h => h) hown hK hP 4 rfl rfl 2 (by decide) hw (fun _ h9 => h9) rfl hdg kk
theorem tc_cg14 (C : tc_C p s m args meth c own cc nL ret D cA) (hP : va_P D vwCl (tc_cW ad cA σ) H) (hw : (Cond.fieldLink own index "TwinConsole$SecondProcessor" "letsIn" "Z").before args s = true) (hdg : decode cc pc = .ok (.getfield index, 3)) (kk : W p l e R s m args below meth c H locs cells slots Q (F0 m (pc + 3) ls (.int (tc_gf σ 14) :: rest))) : W p l e R s m args below meth c H locs cells slots Q (F0 m pc ls (.ref (ad 2) :: rest)) := by
  obtain ⟨hx, hb, hml, hown, ⟨hK, hN⟩, hr, hlk⟩ := C
  exact va_get (D := D) (ci := 2) (v := .int (tc_gf σ 14)) (C := RXS) (T := TXS) (N := 13) hx hb (tc_ht hN tc_in_XS) (fun _ h => h) hown hK hP 2 rfl rfl 8 (by decide) hw (fun _ h9 => h9) rfl hdg kk
theorem tc_cr_XB_painter (C : tc_C p s m args meth c own cc nL ret D cA) (hP : va_P D vwCl (tc_cW ad cA σ) H) (hw : (Cond.fieldLink own index "TwinConsole$Beam" "painter" "LTwinConsole$Painter;").before args s = true) (hdg : decode cc pc = .ok (.getfield index, 3)) (kk : W p l e R s m args below meth c H locs cells slots Q (F0 m (pc + 3) ls (.ref (ad 5) :: rest))) : W p l e R s m args below meth c H locs cells slots Q (F0 m pc ls (.ref (ad 4) :: rest)) := by
  obtain ⟨hx, hb, hml, hown, ⟨hK, hN⟩, hr, hlk⟩ := C
  exact va_get (D := D) (ci := 4) (v := .ref (ad 5)) (C := RXB) (T := TXB) (N := 8) hx hb (tc_ht hN tc_in_XB) (fun _ h => h) hown hK hP 4 rfl rfl 1 (by decide) hw (fun _ h9 => h9) rfl hdg kk
theorem tc_cr_XD_registers (C : tc_C p s m args meth c own cc nL ret D cA) (hP : va_P D vwCl (tc_cW ad cA σ) H) (hw : (Cond.fieldLink own index "TwinConsole$Painter" "registers" "[I").before args s = true) (hdg : decode cc pc = .ok (.getfield index, 3)) (kk : W p l e R s m args below meth c H locs cells slots Q (F0 m (pc + 3) ls (.ref (ad 14) :: rest))) : W p l e R s m args below meth c H locs cells slots Q (F0 m pc ls (.ref (ad 5) :: rest)) := by
  obtain ⟨hx, hb, hml, hown, ⟨hK, hN⟩, hr, hlk⟩ := C
  exact va_get (D := D) (ci := 5) (v := .ref (ad 14)) (C := RXD) (T := TXD) (N := 9) hx hb (tc_ht hN tc_in_XD) (fun _ h => h) hown hK hP 5 rfl rfl 1 (by decide) hw (fun _ h9 => h9) rfl hdg kk
theorem tc_cr_XD_screen (C : tc_C p s m args meth c own cc nL ret D cA) (hP : va_P D vwCl (tc_cW ad cA σ) H) (hw : (Cond.fieldLink own index "TwinConsole$Painter" "screen" "[I").before args s = true) (hdg : decode cc pc = .ok (.getfield index, 3)) (kk : W p l e R s m args below meth c H locs cells slots Q (F0 m (pc + 3) ls (.ref (ad 15) :: rest))) : W p l e R s m args below meth c H locs cells slots Q (F0 m pc ls (.ref (ad 5) :: rest)) := by
  obtain ⟨hx, hb, hml, hown, ⟨hK, hN⟩, hr, hlk⟩ := C
  exact va_get (D := D) (ci := 5) (v := .ref (ad 15)) (C := RXD) (T := TXD) (N := 9) hx hb (tc_ht hN tc_in_XD) (fun _ h => h) hown hK hP 5 rfl rfl 2 (by decide) hw (fun _ h9 => h9) rfl hdg kk
theorem tc_cst15 (C : tc_C p s m args meth c own cc nL ret D cA) (hJ : ∀ σ, va_D A (tc_cW ad cA σ)) (hP : va_P D vwCl (tc_cW ad cA σ) H) (hS : va_S A H0 H locs) (hi : vp_in i 128) (hdg : decode cc pc = .ok (.iastore, 1)) (kk : ∀ (H1 : Heap) (locs1 : List Loc), va_P D vwCl (tc_cW ad cA (tc_sa σ 6 i v)) H1 → va_S A H0 H1 locs1 → W p l e R s m args below meth c H1 locs1 cells slots Q (F0 m (pc + 1) ls rest)) : W p l e R s m args below meth c H locs cells slots Q (F0 m pc ls (.int v :: .int i :: .ref (ad 15) :: rest)) := by
  obtain ⟨hx, hb, hml, hown, ⟨hK, hN⟩, hr, hlk⟩ := C
  exact va_iast hx hb hK hP (hJ σ) hS 15 0 rfl rfl hi hdg (fun H1 locs1 h1 _ h3 => kk H1 locs1 h1 h3)
theorem tc_cr_XD_dotsOfSprites (C : tc_C p s m args meth c own cc nL ret D cA) (hP : va_P D vwCl (tc_cW ad cA σ) H) (hw : (Cond.fieldLink own index "TwinConsole$Painter" "dotsOfSprites" "[I").before args s = true) (hdg : decode cc pc = .ok (.getfield index, 3)) (kk : W p l e R s m args below meth c H locs cells slots Q (F0 m (pc + 3) ls (.ref (ad 18) :: rest))) : W p l e R s m args below meth c H locs cells slots Q (F0 m pc ls (.ref (ad 5) :: rest)) := by
  obtain ⟨hx, hb, hml, hown, ⟨hK, hN⟩, hr, hlk⟩ := C
  exact va_get (D := D) (ci := 5) (v := .ref (ad 18)) (C := RXD) (T := TXD) (N := 9) hx hb (tc_ht hN tc_in_XD) (fun _ h => h) hown hK hP 5 rfl rfl 5 (by decide) hw (fun _ h9 => h9) rfl hdg kk
theorem tc_cld18 (C : tc_C p s m args meth c own cc nL ret D cA) (hP : va_P D vwCl (tc_cW ad cA σ) H) (hi : vp_in i 16) (hdg : decode cc pc = .ok (.iaload, 1)) (kk : W p l e R s m args below meth c H locs cells slots Q (F0 m (pc + 1) ls (.int (tc_ga σ 11 i) :: rest))) : W p l e R s m args below meth c H locs cells slots Q (F0 m pc ls (.int i :: .ref (ad 18) :: rest)) := by
  obtain ⟨hx, hb, hml, hown, ⟨hK, hN⟩, hr, hlk⟩ := C
  exact va_iald hx hb hK hP 18 0 rfl rfl hi hdg kk
theorem tc_cr_XD_dotsOfA (C : tc_C p s m args meth c own cc nL ret D cA) (hP : va_P D vwCl (tc_cW ad cA σ) H) (hw : (Cond.fieldLink own index "TwinConsole$Painter" "dotsOfA" "[I").before args s = true) (hdg : decode cc pc = .ok (.getfield index, 3)) (kk : W p l e R s m args below meth c H locs cells slots Q (F0 m (pc + 3) ls (.ref (ad 16) :: rest))) : W p l e R s m args below meth c H locs cells slots Q (F0 m pc ls (.ref (ad 5) :: rest)) := by
  obtain ⟨hx, hb, hml, hown, ⟨hK, hN⟩, hr, hlk⟩ := C
  exact va_get (D := D) (ci := 5) (v := .ref (ad 16)) (C := RXD) (T := TXD) (N := 9) hx hb (tc_ht hN tc_in_XD) (fun _ h => h) hown hK hP 5 rfl rfl 3 (by decide) hw (fun _ h9 => h9) rfl hdg kk
theorem tc_cld16 (C : tc_C p s m args meth c own cc nL ret D cA) (hP : va_P D vwCl (tc_cW ad cA σ) H) (hi : vp_in i 16) (hdg : decode cc pc = .ok (.iaload, 1)) (kk : W p l e R s m args below meth c H locs cells slots Q (F0 m (pc + 1) ls (.int (tc_ga σ 9 i) :: rest))) : W p l e R s m args below meth c H locs cells slots Q (F0 m pc ls (.int i :: .ref (ad 16) :: rest)) := by
  obtain ⟨hx, hb, hml, hown, ⟨hK, hN⟩, hr, hlk⟩ := C
  exact va_iald hx hb hK hP 16 0 rfl rfl hi hdg kk
theorem tc_cr_XD_dotsOfB (C : tc_C p s m args meth c own cc nL ret D cA) (hP : va_P D vwCl (tc_cW ad cA σ) H) (hw : (Cond.fieldLink own index "TwinConsole$Painter" "dotsOfB" "[I").before args s = true) (hdg : decode cc pc = .ok (.getfield index, 3)) (kk : W p l e R s m args below meth c H locs cells slots Q (F0 m (pc + 3) ls (.ref (ad 17) :: rest))) : W p l e R s m args below meth c H locs cells slots Q (F0 m pc ls (.ref (ad 5) :: rest)) := by
  obtain ⟨hx, hb, hml, hown, ⟨hK, hN⟩, hr, hlk⟩ := C
  exact va_get (D := D) (ci := 5) (v := .ref (ad 17)) (C := RXD) (T := TXD) (N := 9) hx hb (tc_ht hN tc_in_XD) (fun _ h => h) hown hK hP 5 rfl rfl 4 (by decide) hw (fun _ h9 => h9) rfl hdg kk
theorem tc_cld17 (C : tc_C p s m args meth c own cc nL ret D cA) (hP : va_P D vwCl (tc_cW ad cA σ) H) (hi : vp_in i 16) (hdg : decode cc pc = .ok (.iaload, 1)) (kk : W p l e R s m args below meth c H locs cells slots Q (F0 m (pc + 1) ls (.int (tc_ga σ 10 i) :: rest))) : W p l e R s m args below meth c H locs cells slots Q (F0 m pc ls (.int i :: .ref (ad 17) :: rest)) := by
  obtain ⟨hx, hb, hml, hown, ⟨hK, hN⟩, hr, hlk⟩ := C
  exact va_iald hx hb hK hP 17 0 rfl rfl hi hdg kk
theorem tc_cr_XD_picture (C : tc_C p s m args meth c own cc nL ret D cA) (hP : va_P D vwCl (tc_cW ad cA σ) H) (hw : (Cond.fieldLink own index "TwinConsole$Painter" "picture" "LTwinConsole$PictureUnit;").before args s = true) (hdg : decode cc pc = .ok (.getfield index, 3)) (kk : W p l e R s m args below meth c H locs cells slots Q (F0 m (pc + 3) ls (.ref (ad 3) :: rest))) : W p l e R s m args below meth c H locs cells slots Q (F0 m pc ls (.ref (ad 5) :: rest)) := by
  obtain ⟨hx, hb, hml, hown, ⟨hK, hN⟩, hr, hlk⟩ := C
  exact va_get (D := D) (ci := 5) (v := .ref (ad 3)) (C := RXD) (T := TXD) (N := 9) hx hb (tc_ht hN tc_in_XD) (fun _ h => h) hown hK hP 5 rfl rfl 0 (by decide) hw (fun _ h9 => h9) rfl hdg kk
theorem tc_crN_XP_vsram (C : tc_C p s m args meth c own cc nL ret D cA) (hP : va_P D vwCl (tc_cW ad cA σ) H) (hw : (Cond.fieldLinkNest own index "TwinConsole$PictureUnit" "vsram" "[I" "TwinConsole").before args s = true) (hdg : decode cc pc = .ok (.getfield index, 3)) (kk : W p l e R s m args below meth c H locs cells slots Q (F0 m (pc + 3) ls (.ref (ad 13) :: rest))) : W p l e R s m args below meth c H locs cells slots Q (F0 m pc ls (.ref (ad 3) :: rest)) := by
  obtain ⟨hx, hb, hml, hown, ⟨hK, hN⟩, hr, hlk⟩ := C
  exact va_getN (D := D) (ci := 3) (v := .ref (ad 13)) (C := RXP) (T := TXP) (N := 10) hx hb (tc_ht hN tc_in_XP) (fun _ h => h) hown hK hP 3 rfl rfl 2 (by decide) hw (fun _ h9 => h9) rfl hdg kk
theorem tc_cst16 (C : tc_C p s m args meth c own cc nL ret D cA) (hJ : ∀ σ, va_D A (tc_cW ad cA σ)) (hP : va_P D vwCl (tc_cW ad cA σ) H) (hS : va_S A H0 H locs) (hi : vp_in i 16) (hdg : decode cc pc = .ok (.iastore, 1)) (kk : ∀ (H1 : Heap) (locs1 : List Loc), va_P D vwCl (tc_cW ad cA (tc_sa σ 9 i v)) H1 → va_S A H0 H1 locs1 → W p l e R s m args below meth c H1 locs1 cells slots Q (F0 m (pc + 1) ls rest)) : W p l e R s m args below meth c H locs cells slots Q (F0 m pc ls (.int v :: .int i :: .ref (ad 16) :: rest)) := by
  obtain ⟨hx, hb, hml, hown, ⟨hK, hN⟩, hr, hlk⟩ := C
  exact va_iast hx hb hK hP (hJ σ) hS 16 0 rfl rfl hi hdg (fun H1 locs1 h1 _ h3 => kk H1 locs1 h1 h3)
theorem tc_cst17 (C : tc_C p s m args meth c own cc nL ret D cA) (hJ : ∀ σ, va_D A (tc_cW ad cA σ)) (hP : va_P D vwCl (tc_cW ad cA σ) H) (hS : va_S A H0 H locs) (hi : vp_in i 16) (hdg : decode cc pc = .ok (.iastore, 1)) (kk : ∀ (H1 : Heap) (locs1 : List Loc), va_P D vwCl (tc_cW ad cA (tc_sa σ 10 i v)) H1 → va_S A H0 H1 locs1 → W p l e R s m args below meth c H1 locs1 cells slots Q (F0 m (pc + 1) ls rest)) : W p l e R s m args below meth c H locs cells slots Q (F0 m pc ls (.int v :: .int i :: .ref (ad 17) :: rest)) := by
  obtain ⟨hx, hb, hml, hown, ⟨hK, hN⟩, hr, hlk⟩ := C
  exact va_iast hx hb hK hP (hJ σ) hS 17 0 rfl rfl hi hdg (fun H1 locs1 h1 _ h3 => kk H1 locs1 h1 h3)
theorem tc_cr_XD_taken (C : tc_C p s m args meth c own cc nL ret D cA) (hP : va_P D vwCl (tc_cW ad cA σ) H) (hw : (Cond.fieldLink own index "TwinConsole$Painter" "taken" "[I").before args s = true) (hdg : decode cc pc = .ok (.getfield index, 3)) (kk : W p l e R s m args below meth c H locs cells slots Q (F0 m (pc + 3) ls (.ref (ad 19) :: rest))) : W p l e R s m args below meth c H locs cells slots Q (F0 m pc ls (.ref (ad 5) :: rest)) := by
  obtain ⟨hx, hb, hml, hown, ⟨hK, hN⟩, hr, hlk⟩ := C
  exact va_get (D := D) (ci := 5) (v := .ref (ad 19)) (C := RXD) (T := TXD) (N := 9) hx hb (tc_ht hN tc_in_XD) (fun _ h => h) hown hK hP 5 rfl rfl 6 (by decide) hw (fun _ h9 => h9) rfl hdg kk
theorem tc_cst19 (C : tc_C p s m args meth c own cc nL ret D cA) (hJ : ∀ σ, va_D A (tc_cW ad cA σ)) (hP : va_P D vwCl (tc_cW ad cA σ) H) (hS : va_S A H0 H locs) (hi : vp_in i 3) (hdg : decode cc pc = .ok (.iastore, 1)) (kk : ∀ (H1 : Heap) (locs1 : List Loc), va_P D vwCl (tc_cW ad cA (tc_sa σ 12 i v)) H1 → va_S A H0 H1 locs1 → W p l e R s m args below meth c H1 locs1 cells slots Q (F0 m (pc + 1) ls rest)) : W p l e R s m args below meth c H locs cells slots Q (F0 m pc ls (.int v :: .int i :: .ref (ad 19) :: rest)) := by
  obtain ⟨hx, hb, hml, hown, ⟨hK, hN⟩, hr, hlk⟩ := C
  exact va_iast hx hb hK hP (hJ σ) hS 19 0 rfl rfl hi hdg (fun H1 locs1 h1 _ h3 => kk H1 locs1 h1 h3)
theorem tc_cp26 (C : tc_C p s m args meth c own cc nL ret D cA) (hJ : ∀ σ, va_D A (tc_cW ad cA σ)) (hP : va_P D vwCl (tc_cW ad cA σ) H) (hS : va_S A H0 H locs) (hw : (Cond.fieldLink own index "TwinConsole$Painter" "tooMany" "Z").before args s = true) (hz : narrow .boolean (.int v) = .int v ∧ fits .boolean (.int v) = true) (hdg : decode cc pc = .ok (.putfield index, 3)) (kk : ∀ (H1 : Heap) (locs1 : List Loc), va_P D vwCl (tc_cW ad cA (tc_sf σ 26 v)) H1 → va_S A H0 H1 locs1 → W p l e R s m args below meth c H1 locs1 cells slots Q (F0 m (pc + 3) ls rest)) : W p l e R s m args below meth c H locs cells slots Q (F0 m pc ls (.int v :: .ref (ad 5) :: rest)) := by
  obtain ⟨hx, hb, hml, hown, ⟨hK, hN⟩, hr, hlk⟩ := C
  exact va_put (D := D) (ci := 5) (v := .int v) (ty := .boolean) (C := RXD) (T := TXD) (N := 9) hx hb (tc_ht hN tc_in_XD) (fun _ h => h) tyXD tyXD_ok nmXD hown hK hP (hJ σ) hS 5 rfl rfl 8 (by decide) hw (fun _ h9 => h9) rfl (by decide +kernel) hz.1 hz.2 (Nat.le_of_ble_eq_true rfl) hdg (fun H1 locs1 h1 _ h3 => kk H1 locs1 h1 h3)
theorem tc_cld19 (C : tc_C p s m args meth c own cc nL ret D cA) (hP : va_P D vwCl (tc_cW ad cA σ) H) (hi : vp_in i 3) (hdg : decode cc pc = .ok (.iaload, 1)) (kk : W p l e R s m args below meth c H locs cells slots Q (F0 m (pc + 1) ls (.int (tc_ga σ 12 i) :: rest))) : W p l e R s m args below meth c H locs cells slots Q (F0 m pc ls (.int i :: .ref (ad 19) :: rest)) := by
  obtain ⟨hx, hb, hml, hown, ⟨hK, hN⟩, hr, hlk⟩ := C
  exact va_iald hx hb hK hP 19 0 rfl rfl hi hdg kk
theorem tc_cp25 (C : tc_C p s m args meth c own cc nL ret D cA) (hJ : ∀ σ, va_D A (tc_cW ad cA σ)) (hP : va_P D vwCl (tc_cW ad cA σ) H) (hS : va_S A H0 H locs) (hw : (Cond.fieldLink own index "TwinConsole$Painter" "collided" "Z").before args s = true) (hz : narrow .boolean (.int v) = .int v ∧ fits .boolean (.int v) = true) (hdg : decode cc pc = .ok (.putfield index, 3)) (kk : ∀ (H1 : Heap) (locs1 : List Loc), va_P D vwCl (tc_cW ad cA (tc_sf σ 25 v)) H1 → va_S A H0 H1 locs1 → W p l e R s m args below meth c H1 locs1 cells slots Q (F0 m (pc + 3) ls rest)) : W p l e R s m args below meth c H locs cells slots Q (F0 m pc ls (.int v :: .ref (ad 5) :: rest)) := by
  obtain ⟨hx, hb, hml, hown, ⟨hK, hN⟩, hr, hlk⟩ := C
  exact va_put (D := D) (ci := 5) (v := .int v) (ty := .boolean) (C := RXD) (T := TXD) (N := 9) hx hb (tc_ht hN tc_in_XD) (fun _ h => h) tyXD tyXD_ok nmXD hown hK hP (hJ σ) hS 5 rfl rfl 7 (by decide) hw (fun _ h9 => h9) rfl (by decide +kernel) hz.1 hz.2 (Nat.le_of_ble_eq_true rfl) hdg (fun H1 locs1 h1 _ h3 => kk H1 locs1 h1 h3)
theorem tc_cst18 (C : tc_C p s m args meth c own cc nL ret D cA) (hJ : ∀ σ, va_D A (tc_cW ad cA σ)) (hP : va_P D vwCl (tc_cW ad cA σ) H) (hS : va_S A H0 H locs) (hi : vp_in i 16) (hdg : decode cc pc = .ok (.iastore, 1)) (kk : ∀ (H1 : Heap) (locs1 : List Loc), va_P D vwCl (tc_cW ad cA (tc_sa σ 11 i v)) H1 → va_S A H0 H1 locs1 → W p l e R s m args below meth c H1 locs1 cells slots Q (F0 m (pc + 1) ls rest)) : W p l e R s m args below meth c H locs cells slots Q (F0 m pc ls (.int v :: .int i :: .ref (ad 18) :: rest)) := by
  obtain ⟨hx, hb, hml, hown, ⟨hK, hN⟩, hr, hlk⟩ := C
  exact va_iast hx hb hK hP (hJ σ) hS 18 0 rfl rfl hi hdg (fun H1 locs1 h1 _ h3 => kk H1 locs1 h1 h3)
theorem tc_cg29 (C : tc_C p s m args meth c own cc nL ret D cA) (hP : va_P D vwCl (tc_cW ad cA σ) H) (hw : (Cond.fieldLink own index "TwinConsole$Beam" "counter" "I").before args s = true) (hdg : decode cc pc = .ok (.getfield index, 3)) (kk : W p l e R s m args below meth c H locs cells slots Q (F0 m (pc + 3) ls (.int (tc_gf σ 29) :: rest))) : W p l e R s m args below meth c H locs cells slots Q (F0 m pc ls (.ref (ad 4) :: rest)) := by
  obtain ⟨hx, hb, hml, hown, ⟨hK, hN⟩, hr, hlk⟩ := C
  exact va_get (D := D) (ci := 4) (v := .int (tc_gf σ 29)) (C := RXB) (T := TXB) (N := 8) hx hb (tc_ht hN tc_in_XB) (fun _ h => h) hown hK hP 4 rfl rfl 5 (by decide) hw (fun _ h9 => h9) rfl hdg kk
theorem tc_cp30 (C : tc_C p s m args meth c own cc nL ret D cA) (hJ : ∀ σ, va_D A (tc_cW ad cA σ)) (hP : va_P D vwCl (tc_cW ad cA σ) H) (hS : va_S A H0 H locs) (hw : (Cond.fieldLink own index "TwinConsole$Beam" "pending4" "Z").before args s = true) (hz : narrow .boolean (.int v) = .int v ∧ fits .boolean (.int v) = true) (hdg : decode cc pc = .ok (.putfield index, 3)) (kk : ∀ (H1 : Heap) (locs1 : List Loc), va_P D vwCl (tc_cW ad cA (tc_sf σ 30 v)) H1 → va_S A H0 H1 locs1 → W p l e R s m args below meth c H1 locs1 cells slots Q (F0 m (pc + 3) ls rest)) : W p l e R s m args below meth c H locs cells slots Q (F0 m pc ls (.int v :: .ref (ad 4) :: rest)) := by
  obtain ⟨hx, hb, hml, hown, ⟨hK, hN⟩, hr, hlk⟩ := C
  exact va_put (D := D) (ci := 4) (v := .int v) (ty := .boolean) (C := RXB) (T := TXB) (N := 8) hx hb (tc_ht hN tc_in_XB) (fun _ h => h) tyXB tyXB_ok nmXB hown hK hP (hJ σ) hS 4 rfl rfl 6 (by decide) hw (fun _ h9 => h9) rfl (by decide +kernel) hz.1 hz.2 (Nat.le_of_ble_eq_true rfl) hdg (fun H1 locs1 h1 _ h3 => kk H1 locs1 h1 h3)
theorem tc_cgN24 (C : tc_C p s m args meth c own cc nL ret D cA) (hP : va_P D vwCl (tc_cW ad cA σ) H) (hw : (Cond.fieldLinkNest own index "TwinConsole$PictureUnit" "source" "I" "TwinConsole").before args s = true) (hdg : decode cc pc = .ok (.getfield index, 3)) (kk : W p l e R s m args below meth c H locs cells slots Q (F0 m (pc + 3) ls (.int (tc_gf σ 24) :: rest))) : W p l e R s m args below meth c H locs cells slots Q (F0 m pc ls (.ref (ad 3) :: rest)) := by
  obtain ⟨hx, hb, hml, hown, ⟨hK, hN⟩, hr, hlk⟩ := C
  exact va_getN (D := D) (ci := 3) (v := .int (tc_gf σ 24)) (C := RXP) (T := TXP) (N := 10) hx hb (tc_ht hN tc_in_XP) (fun _ h => h) hown hK hP 3 rfl rfl 9 (by decide) hw (fun _ h9 => h9) rfl hdg kk
theorem tc_cg24 (C : tc_C p s m args meth c own cc nL ret D cA) (hP : va_P D vwCl (tc_cW ad cA σ) H) (hw : (Cond.fieldLink own index "TwinConsole$PictureUnit" "source" "I").before args s = true) (hdg : decode cc pc = .ok (.getfield index, 3)) (kk : W p l e R s m args below meth c H locs cells slots Q (F0 m (pc + 3) ls (.int (tc_gf σ 24) :: rest))) : W p l e R s m args below meth c H locs cells slots Q (F0 m pc ls (.ref (ad 3) :: rest)) := by
  obtain ⟨hx, hb, hml, hown, ⟨hK, hN⟩, hr, hlk⟩ := C
  exact va_get (D := D) (ci := 3) (v := .int (tc_gf σ 24)) (C := RXP) (T := TXP) (N := 10) hx hb (tc_ht hN tc_in_XP) (fun _ h => h) hown hK hP 3 rfl rfl 9 (by decide) hw (fun _ h9 => h9) rfl hdg kk
theorem tc_cgN0 (C : tc_C p s m args meth c own cc nL ret D cA) (hP : va_P D vwCl (tc_cW ad cA σ) H) (hw : (Cond.fieldLinkNest own index "TwinConsole$MainProcessor" "s" "I" "TwinConsole").before args s = true) (hdg : decode cc pc = .ok (.getfield index, 3)) (kk : W p l e R s m args below meth c H locs cells slots Q (F0 m (pc + 3) ls (.int (tc_gf σ 0) :: rest))) : W p l e R s m args below meth c H locs cells slots Q (F0 m pc ls (.ref (ad 1) :: rest)) := by
  obtain ⟨hx, hb, hml, hown, ⟨hK, hN⟩, hr, hlk⟩ := C
  exact va_getN (D := D) (ci := 1) (v := .int (tc_gf σ 0)) (C := RXM) (T := TXM) (N := 10) hx hb (tc_ht hN tc_in_XM) (fun _ h => h) hown hK hP 1 rfl rfl 2 (by decide) hw (fun _ h9 => h9) rfl hdg kk
theorem tc_cgN1 (C : tc_C p s m args meth c own cc nL ret D cA) (hP : va_P D vwCl (tc_cW ad cA σ) H) (hw : (Cond.fieldLinkNest own index "TwinConsole$MainProcessor" "pc" "I" "TwinConsole").before args s = true) (hdg : decode cc pc = .ok (.getfield index, 3)) (kk : W p l e R s m args below meth c H locs cells slots Q (F0 m (pc + 3) ls (.int (tc_gf σ 1) :: rest))) : W p l e R s m args below meth c H locs cells slots Q (F0 m pc ls (.ref (ad 1) :: rest)) := by
  obtain ⟨hx, hb, hml, hown, ⟨hK, hN⟩, hr, hlk⟩ := C
  exact va_getN (D := D) (ci := 1) (v := .int (tc_gf σ 1)) (C := RXM) (T := TXM) (N := 10) hx hb (tc_ht hN tc_in_XM) (fun _ h => h) hown hK hP 1 rfl rfl 3 (by decide) hw (fun _ h9 => h9) rfl hdg kk
theorem tc_cgN8 (C : tc_C p s m args meth c own cc nL ret D cA) (hP : va_P D vwCl (tc_cW ad cA σ) H) (hw : (Cond.fieldLinkNest own index "TwinConsole$SecondProcessor" "a" "I" "TwinConsole").before args s = true) (hdg : decode cc pc = .ok (.getfield index, 3)) (kk : W p l e R s m args below meth c H locs cells slots Q (F0 m (pc + 3) ls (.int (tc_gf σ 8) :: rest))) : W p l e R s m args below meth c H locs cells slots Q (F0 m pc ls (.ref (ad 2) :: rest)) := by
  obtain ⟨hx, hb, hml, hown, ⟨hK, hN⟩, hr, hlk⟩ := C
  exact va_getN (D := D) (ci := 2) (v := .int (tc_gf σ 8)) (C := RXS) (T := TXS) (N := 13) hx hb (tc_ht hN tc_in_XS) (fun _ h => h) hown hK hP 2 rfl rfl 2 (by decide) hw (fun _ h9 => h9) rfl hdg kk
theorem tc_cgN9 (C : tc_C p s m args meth c own cc nL ret D cA) (hP : va_P D vwCl (tc_cW ad cA σ) H) (hw : (Cond.fieldLinkNest own index "TwinConsole$SecondProcessor" "b" "I" "TwinConsole").before args s = true) (hdg : decode cc pc = .ok (.getfield index, 3)) (kk : W p l e R s m args below meth c H locs cells slots Q (F0 m (pc + 3) ls (.int (tc_gf σ 9) :: rest))) : W p l e R s m args below meth c H locs cells slots Q (F0 m pc ls (.ref (ad 2) :: rest)) := by
  obtain ⟨hx, hb, hml, hown, ⟨hK, hN⟩, hr, hlk⟩ := C
  exact va_getN (D := D) (ci := 2) (v := .int (tc_gf σ 9)) (C := RXS) (T := TXS) (N := 13) hx hb (tc_ht hN tc_in_XS) (fun _ h => h) hown hK hP 2 rfl rfl 3 (by decide) hw (fun _ h9 => h9) rfl hdg kk
theorem tc_cgN10 (C : tc_C p s m args meth c own cc nL ret D cA) (hP : va_P D vwCl (tc_cW ad cA σ) H) (hw : (Cond.fieldLinkNest own index "TwinConsole$SecondProcessor" "h" "I" "TwinConsole").before args s = true) (hdg : decode cc pc = .ok (.getfield index, 3)) (kk : W p l e R s m args below meth c H locs cells slots Q (F0 m (pc + 3) ls (.int (tc_gf σ 10) :: rest))) : W p l e R s m args below meth c H locs cells slots Q (F0 m pc ls (.ref (ad 2) :: rest)) := by
  obtain ⟨hx, hb, hml, hown, ⟨hK, hN⟩, hr, hlk⟩ := C
  exact va_getN (D := D) (ci := 2) (v := .int (tc_gf σ 10)) (C := RXS) (T := TXS) (N := 13) hx hb (tc_ht hN tc_in_XS) (fun _ h => h) hown hK hP 2 rfl rfl 4 (by decide) hw (fun _ h9 => h9) rfl hdg kk
theorem tc_cgN11 (C : tc_C p s m args meth c own cc nL ret D cA) (hP : va_P D vwCl (tc_cW ad cA σ) H) (hw : (Cond.fieldLinkNest own index "TwinConsole$SecondProcessor" "pc" "I" "TwinConsole").before args s = true) (hdg : decode cc pc = .ok (.getfield index, 3)) (kk : W p l e R s m args below meth c H locs cells slots Q (F0 m (pc + 3) ls (.int (tc_gf σ 11) :: rest))) : W p l e R s m args below meth c H locs cells slots Q (F0 m pc ls (.ref (ad 2) :: rest)) := by
  obtain ⟨hx, hb, hml, hown, ⟨hK, hN⟩, hr, hlk⟩ := C
  exact va_getN (D := D) (ci := 2) (v := .int (tc_gf σ 11)) (C := RXS) (T := TXS) (N := 13) hx hb (tc_ht hN tc_in_XS) (fun _ h => h) hown hK hP 2 rfl rfl 5 (by decide) hw (fun _ h9 => h9) rfl hdg kk
theorem tc_crN_XM_d (C : tc_C p s m args meth c own cc nL ret D cA) (hP : va_P D vwCl (tc_cW ad cA σ) H) (hw : (Cond.fieldLinkNest own index "TwinConsole$MainProcessor" "d" "[I" "TwinConsole").before args s = true) (hdg : decode cc pc = .ok (.getfield index, 3)) (kk : W p l e R s m args below meth c H locs cells slots Q (F0 m (pc + 3) ls (.ref (ad 9) :: rest))) : W p l e R s m args below meth c H locs cells slots Q (F0 m pc ls (.ref (ad 1) :: rest)) := by
  obtain ⟨hx, hb, hml, hown, ⟨hK, hN⟩, hr, hlk⟩ := C
  exact va_getN (D := D) (ci := 1) (v := .ref (ad 9)) (C := RXM) (T := TXM) (N := 10) hx hb (tc_ht hN tc_in_XM) (fun _ h => h) hown hK hP 1 rfl rfl 1 (by decide) hw (fun _ h9 => h9) rfl hdg kk
theorem tc_cal10 (C : tc_C p s m args meth c own cc nL ret D cA) (hP : va_P D vwCl (tc_cW ad cA σ) H) (hdg : decode cc pc = .ok (.arraylength, 1)) (kk : W p l e R s m args below meth c H locs cells slots Q (F0 m (pc + 1) ls (.int 128 :: rest))) : W p l e R s m args below meth c H locs cells slots Q (F0 m pc ls (.ref (ad 10) :: rest)) := by
  obtain ⟨hx, hb, hml, hown, ⟨hK, hN⟩, hr, hlk⟩ := C
  exact va_alen (v := 128) hx hb hK hP 10 0 rfl rfl rfl hdg kk
theorem tc_crN_XP_cram (C : tc_C p s m args meth c own cc nL ret D cA) (hP : va_P D vwCl (tc_cW ad cA σ) H) (hw : (Cond.fieldLinkNest own index "TwinConsole$PictureUnit" "cram" "[I" "TwinConsole").before args s = true) (hdg : decode cc pc = .ok (.getfield index, 3)) (kk : W p l e R s m args below meth c H locs cells slots Q (F0 m (pc + 3) ls (.ref (ad 12) :: rest))) : W p l e R s m args below meth c H locs cells slots Q (F0 m pc ls (.ref (ad 3) :: rest)) := by
  obtain ⟨hx, hb, hml, hown, ⟨hK, hN⟩, hr, hlk⟩ := C
  exact va_getN (D := D) (ci := 3) (v := .ref (ad 12)) (C := RXP) (T := TXP) (N := 10) hx hb (tc_ht hN tc_in_XP) (fun _ h => h) hown hK hP 3 rfl rfl 1 (by decide) hw (fun _ h9 => h9) rfl hdg kk
theorem tc_cal12 (C : tc_C p s m args meth c own cc nL ret D cA) (hP : va_P D vwCl (tc_cW ad cA σ) H) (hdg : decode cc pc = .ok (.arraylength, 1)) (kk : W p l e R s m args below meth c H locs cells slots Q (F0 m (pc + 1) ls (.int 16 :: rest))) : W p l e R s m args below meth c H locs cells slots Q (F0 m pc ls (.ref (ad 12) :: rest)) := by
  obtain ⟨hx, hb, hml, hown, ⟨hK, hN⟩, hr, hlk⟩ := C
  exact va_alen (v := 16) hx hb hK hP 12 0 rfl rfl rfl hdg kk
theorem tc_cal13 (C : tc_C p s m args meth c own cc nL ret D cA) (hP : va_P D vwCl (tc_cW ad cA σ) H) (hdg : decode cc pc = .ok (.arraylength, 1)) (kk : W p l e R s m args below meth c H locs cells slots Q (F0 m (pc + 1) ls (.int 2 :: rest))) : W p l e R s m args below meth c H locs cells slots Q (F0 m pc ls (.ref (ad 13) :: rest)) := by
  obtain ⟨hx, hb, hml, hown, ⟨hK, hN⟩, hr, hlk⟩ := C
  exact va_alen (v := 2) hx hb hK hP 13 0 rfl rfl rfl hdg kk
theorem tc_cal14 (C : tc_C p s m args meth c own cc nL ret D cA) (hP : va_P D vwCl (tc_cW ad cA σ) H) (hdg : decode cc pc = .ok (.arraylength, 1)) (kk : W p l e R s m args below meth c H locs cells slots Q (F0 m (pc + 1) ls (.int 16 :: rest))) : W p l e R s m args below meth c H locs cells slots Q (F0 m pc ls (.ref (ad 14) :: rest)) := by
  obtain ⟨hx, hb, hml, hown, ⟨hK, hN⟩, hr, hlk⟩ := C
  exact va_alen (v := 16) hx hb hK hP 14 0 rfl rfl rfl hdg kk
theorem tc_cgN19 (C : tc_C p s m args meth c own cc nL ret D cA) (hP : va_P D vwCl (tc_cW ad cA σ) H) (hw : (Cond.fieldLinkNest own index "TwinConsole$PictureUnit" "address" "I" "TwinConsole").before args s = true) (hdg : decode cc pc = .ok (.getfield index, 3)) (kk : W p l e R s m args below meth c H locs cells slots Q (F0 m (pc + 3) ls (.int (tc_gf σ 19) :: rest))) : W p l e R s m args below meth c H locs cells slots Q (F0 m pc ls (.ref (ad 3) :: rest)) := by
  obtain ⟨hx, hb, hml, hown, ⟨hK, hN⟩, hr, hlk⟩ := C
  exact va_getN (D := D) (ci := 3) (v := .int (tc_gf σ 19)) (C := RXP) (T := TXP) (N := 10) hx hb (tc_ht hN tc_in_XP) (fun _ h => h) hown hK hP 3 rfl rfl 4 (by decide) hw (fun _ h9 => h9) rfl hdg kk
theorem tc_cgN20 (C : tc_C p s m args meth c own cc nL ret D cA) (hP : va_P D vwCl (tc_cW ad cA σ) H) (hw : (Cond.fieldLinkNest own index "TwinConsole$PictureUnit" "code" "I" "TwinConsole").before args s = true) (hdg : decode cc pc = .ok (.getfield index, 3)) (kk : W p l e R s m args below meth c H locs cells slots Q (F0 m (pc + 3) ls (.int (tc_gf σ 20) :: rest))) : W p l e R s m args below meth c H locs cells slots Q (F0 m pc ls (.ref (ad 3) :: rest)) := by
  obtain ⟨hx, hb, hml, hown, ⟨hK, hN⟩, hr, hlk⟩ := C
  exact va_getN (D := D) (ci := 3) (v := .int (tc_gf σ 20)) (C := RXP) (T := TXP) (N := 10) hx hb (tc_ht hN tc_in_XP) (fun _ h => h) hown hK hP 3 rfl rfl 5 (by decide) hw (fun _ h9 => h9) rfl hdg kk
theorem tc_cgN21 (C : tc_C p s m args meth c own cc nL ret D cA) (hP : va_P D vwCl (tc_cW ad cA σ) H) (hw : (Cond.fieldLinkNest own index "TwinConsole$PictureUnit" "wordWaitedFor" "Z" "TwinConsole").before args s = true) (hdg : decode cc pc = .ok (.getfield index, 3)) (kk : W p l e R s m args below meth c H locs cells slots Q (F0 m (pc + 3) ls (.int (tc_gf σ 21) :: rest))) : W p l e R s m args below meth c H locs cells slots Q (F0 m pc ls (.ref (ad 3) :: rest)) := by
  obtain ⟨hx, hb, hml, hown, ⟨hK, hN⟩, hr, hlk⟩ := C
  exact va_getN (D := D) (ci := 3) (v := .int (tc_gf σ 21)) (C := RXP) (T := TXP) (N := 10) hx hb (tc_ht hN tc_in_XP) (fun _ h => h) hown hK hP 3 rfl rfl 6 (by decide) hw (fun _ h9 => h9) rfl hdg kk
theorem tc_cgN30 (C : tc_C p s m args meth c own cc nL ret D cA) (hP : va_P D vwCl (tc_cW ad cA σ) H) (hw : (Cond.fieldLinkNest own index "TwinConsole$Beam" "pending4" "Z" "TwinConsole").before args s = true) (hdg : decode cc pc = .ok (.getfield index, 3)) (kk : W p l e R s m args below meth c H locs cells slots Q (F0 m (pc + 3) ls (.int (tc_gf σ 30) :: rest))) : W p l e R s m args below meth c H locs cells slots Q (F0 m pc ls (.ref (ad 4) :: rest)) := by
  obtain ⟨hx, hb, hml, hown, ⟨hK, hN⟩, hr, hlk⟩ := C
  exact va_getN (D := D) (ci := 4) (v := .int (tc_gf σ 30)) (C := RXB) (T := TXB) (N := 8) hx hb (tc_ht hN tc_in_XB) (fun _ h => h) hown hK hP 4 rfl rfl 6 (by decide) hw (fun _ h9 => h9) rfl hdg kk
theorem tc_cr_XT_painter (C : tc_C p s m args meth c own cc nL ret D cA) (hP : va_P D vwCl (tc_cW ad cA σ) H) (hw : (Cond.fieldLink own index "TwinConsole" "painter" "LTwinConsole$Painter;").before args s = true) (hdg : decode cc pc = .ok (.getfield index, 3)) (kk : W p l e R s m args below meth c H locs cells slots Q (F0 m (pc + 3) ls (.ref (ad 5) :: rest))) : W p l e R s m args below meth c H locs cells slots Q (F0 m pc ls (.ref (ad 0) :: rest)) := by
  obtain ⟨hx, hb, hml, hown, ⟨hK, hN⟩, hr, hlk⟩ := C
  exact va_get (D := D) (ci := 0) (v := .ref (ad 5)) (C := RXT) (T := TXT) (N := 7) hx hb (tc_ht hN tc_in_XT) (fun _ h => h) hown hK hP 0 rfl rfl 3 (by decide) hw (fun _ h9 => h9) rfl hdg kk
theorem tc_crN_XD_screen (C : tc_C p s m args meth c own cc nL ret D cA) (hP : va_P D vwCl (tc_cW ad cA σ) H) (hw : (Cond.fieldLinkNest own index "TwinConsole$Painter" "screen" "[I" "TwinConsole").before args s = true) (hdg : decode cc pc = .ok (.getfield index, 3)) (kk : W p l e R s m args below meth c H locs cells slots Q (F0 m (pc + 3) ls (.ref (ad 15) :: rest))) : W p l e R s m args below meth c H locs cells slots Q (F0 m pc ls (.ref (ad 5) :: rest)) := by
  obtain ⟨hx, hb, hml, hown, ⟨hK, hN⟩, hr, hlk⟩ := C
  exact va_getN (D := D) (ci := 5) (v := .ref (ad 15)) (C := RXD) (T := TXD) (N := 9) hx hb (tc_ht hN tc_in_XD) (fun _ h => h) hown hK hP 5 rfl rfl 2 (by decide) hw (fun _ h9 => h9) rfl hdg kk
theorem tc_cld15 (C : tc_C p s m args meth c own cc nL ret D cA) (hP : va_P D vwCl (tc_cW ad cA σ) H) (hi : vp_in i 128) (hdg : decode cc pc = .ok (.iaload, 1)) (kk : W p l e R s m args below meth c H locs cells slots Q (F0 m (pc + 1) ls (.int (tc_ga σ 6 i) :: rest))) : W p l e R s m args below meth c H locs cells slots Q (F0 m pc ls (.int i :: .ref (ad 15) :: rest)) := by
  obtain ⟨hx, hb, hml, hown, ⟨hK, hN⟩, hr, hlk⟩ := C
  exact va_iald hx hb hK hP 15 0 rfl rfl hi hdg kk
theorem tc_rr_XR_rom (C : tc_C p s m args meth c own cc nL ret D cA) (hP : va_P D vwCl (tc_rW ad cA σ) H) (hw : (Cond.fieldLink own index "TwinConsoleModel" "rom" "[I").before args s = true) (hdg : decode cc pc = .ok (.getfield index, 3)) (kk : W p l e R s m args below meth c H locs cells slots Q (F0 m (pc + 3) ls (.ref (ad 1) :: rest))) : W p l e R s m args below meth c H locs cells slots Q (F0 m pc ls (.ref (ad 0) :: rest)) := by
  obtain ⟨hx, hb, hml, hown, ⟨hK, hN⟩, hr, hlk⟩ := C
  exact va_get (D := D) (ci := 7) (v := .ref (ad 1)) (C := RXR) (T := TXR) (N := 47) hx hb (tc_ht hN tc_in_XR) (fun _ h => h) hown hK hP 0 rfl rfl 0 (by decide) hw (fun _ h9 => h9) rfl hdg kk
theorem tc_rst1 (C : tc_C p s m args meth c own cc nL ret D cA) (hJ : ∀ σ, va_D A (tc_rW ad cA σ)) (hP : va_P D vwCl (tc_rW ad cA σ) H) (hS : va_S A H0 H locs) (hi : vp_in i 512) (hdg : decode cc pc = .ok (.iastore, 1)) (kk : ∀ (H1 : Heap) (locs1 : List Loc), va_P D vwCl (tc_rW ad cA (tc_sa σ 7 i v)) H1 → va_S A H0 H1 locs1 → W p l e R s m args below meth c H1 locs1 cells slots Q (F0 m (pc + 1) ls rest)) : W p l e R s m args below meth c H locs cells slots Q (F0 m pc ls (.int v :: .int i :: .ref (ad 1) :: rest)) := by
  obtain ⟨hx, hb, hml, hown, ⟨hK, hN⟩, hr, hlk⟩ := C
  exact va_iast hx hb hK hP (hJ σ) hS 1 0 rfl rfl hi hdg (fun H1 locs1 h1 _ h3 => kk H1 locs1 h1 h3)
theorem tc_rg15 (C : tc_C p s m args meth c own cc nL ret D cA) (hP : va_P D vwCl (tc_rW ad cA σ) H) (hw : (Cond.fieldLink own index "TwinConsoleModel" "held" "Z").before args s = true) (hdg : decode cc pc = .ok (.getfield index, 3)) (kk : W p l e R s m args below meth c H locs cells slots Q (F0 m (pc + 3) ls (.int (tc_gf σ 15) :: rest))) : W p l e R s m args below meth c H locs cells slots Q (F0 m pc ls (.ref (ad 0) :: rest)) := by
  obtain ⟨hx, hb, hml, hown, ⟨hK, hN⟩, hr, hlk⟩ := C
  exact va_get (D := D) (ci := 7) (v := .int (tc_gf σ 15)) (C := RXR) (T := TXR) (N := 47) hx hb (tc_ht hN tc_in_XR) (fun _ h => h) hown hK hP 0 rfl rfl 25 (by decide) hw (fun _ h9 => h9) rfl hdg kk
theorem tc_rg16 (C : tc_C p s m args meth c own cc nL ret D cA) (hP : va_P D vwCl (tc_rW ad cA σ) H) (hw : (Cond.fieldLink own index "TwinConsoleModel" "inReset" "Z").before args s = true) (hdg : decode cc pc = .ok (.getfield index, 3)) (kk : W p l e R s m args below meth c H locs cells slots Q (F0 m (pc + 3) ls (.int (tc_gf σ 16) :: rest))) : W p l e R s m args below meth c H locs cells slots Q (F0 m pc ls (.ref (ad 0) :: rest)) := by
  obtain ⟨hx, hb, hml, hown, ⟨hK, hN⟩, hr, hlk⟩ := C
  exact va_get (D := D) (ci := 7) (v := .int (tc_gf σ 16)) (C := RXR) (T := TXR) (N := 47) hx hb (tc_ht hN tc_in_XR) (fun _ h => h) hown hK hP 0 rfl rfl 26 (by decide) hw (fun _ h9 => h9) rfl hdg kk
theorem tc_rr_XR_bytes (C : tc_C p s m args meth c own cc nL ret D cA) (hP : va_P D vwCl (tc_rW ad cA σ) H) (hw : (Cond.fieldLink own index "TwinConsoleModel" "bytes" "[I").before args s = true) (hdg : decode cc pc = .ok (.getfield index, 3)) (kk : W p l e R s m args below meth c H locs cells slots Q (F0 m (pc + 3) ls (.ref (ad 4) :: rest))) : W p l e R s m args below meth c H locs cells slots Q (F0 m pc ls (.ref (ad 0) :: rest)) := by
  obtain ⟨hx, hb, hml, hown, ⟨hK, hN⟩, hr, hlk⟩ := C
  exact va_get (D := D) (ci := 7) (v := .ref (ad 4)) (C := RXR) (T := TXR) (N := 47) hx hb (tc_ht hN tc_in_XR) (fun _ h => h) hown hK hP 0 rfl rfl 17 (by decide) hw (fun _ h9 => h9) rfl hdg kk
theorem tc_rld4 (C : tc_C p s m args meth c own cc nL ret D cA) (hP : va_P D vwCl (tc_rW ad cA σ) H) (hi : vp_in i 128) (hdg : decode cc pc = .ok (.iaload, 1)) (kk : W p l e R s m args below meth c H locs cells slots Q (F0 m (pc + 1) ls (.int (tc_ga σ 1 i) :: rest))) : W p l e R s m args below meth c H locs cells slots Q (F0 m pc ls (.int i :: .ref (ad 4) :: rest)) := by
  obtain ⟨hx, hb, hml, hown, ⟨hK, hN⟩, hr, hlk⟩ := C
  exact va_iald hx hb hK hP 4 0 rfl rfl hi hdg kk
theorem tc_rr_XR_ram (C : tc_C p s m args meth c own cc nL ret D cA) (hP : va_P D vwCl (tc_rW ad cA σ) H) (hw : (Cond.fieldLink own index "TwinConsoleModel" "ram" "[I").before args s = true) (hdg : decode cc pc = .ok (.getfield index, 3)) (kk : W p l e R s m args below meth c H locs cells slots Q (F0 m (pc + 3) ls (.ref (ad 2) :: rest))) : W p l e R s m args below meth c H locs cells slots Q (F0 m pc ls (.ref (ad 0) :: rest)) := by
  obtain ⟨hx, hb, hml, hown, ⟨hK, hN⟩, hr, hlk⟩ := C
  exact va_get (D := D) (ci := 7) (v := .ref (ad 2)) (C := RXR) (T := TXR) (N := 47) hx hb (tc_ht hN tc_in_XR) (fun _ h => h) hown hK hP 0 rfl rfl 1 (by decide) hw (fun _ h9 => h9) rfl hdg kk
theorem tc_rld2 (C : tc_C p s m args meth c own cc nL ret D cA) (hP : va_P D vwCl (tc_rW ad cA σ) H) (hi : vp_in i 128) (hdg : decode cc pc = .ok (.iaload, 1)) (kk : W p l e R s m args below meth c H locs cells slots Q (F0 m (pc + 1) ls (.int (tc_ga σ 8 i) :: rest))) : W p l e R s m args below meth c H locs cells slots Q (F0 m pc ls (.int i :: .ref (ad 2) :: rest)) := by
  obtain ⟨hx, hb, hml, hown, ⟨hK, hN⟩, hr, hlk⟩ := C
  exact va_iald hx hb hK hP 2 0 rfl rfl hi hdg kk
theorem tc_rld1 (C : tc_C p s m args meth c own cc nL ret D cA) (hP : va_P D vwCl (tc_rW ad cA σ) H) (hi : vp_in i 512) (hdg : decode cc pc = .ok (.iaload, 1)) (kk : W p l e R s m args below meth c H locs cells slots Q (F0 m (pc + 1) ls (.int (tc_ga σ 7 i) :: rest))) : W p l e R s m args below meth c H locs cells slots Q (F0 m pc ls (.int i :: .ref (ad 1) :: rest)) := by
  obtain ⟨hx, hb, hml, hown, ⟨hK, hN⟩, hr, hlk⟩ := C
  exact va_iald hx hb hK hP 1 0 rfl rfl hi hdg kk
theorem tc_rp0 (C : tc_C p s m args meth c own cc nL ret D cA) (hJ : ∀ σ, va_D A (tc_rW ad cA σ)) (hP : va_P D vwCl (tc_rW ad cA σ) H) (hS : va_S A H0 H locs) (hw : (Cond.fieldLink own index "TwinConsoleModel" "s" "I").before args s = true) (hdg : decode cc pc = .ok (.putfield index, 3)) (kk : ∀ (H1 : Heap) (locs1 : List Loc), va_P D vwCl (tc_rW ad cA (tc_sf σ 0 v)) H1 → va_S A H0 H1 locs1 → W p l e R s m args below meth c H1 locs1 cells slots Q (F0 m (pc + 3) ls rest)) : W p l e R s m args below meth c H locs cells slots Q (F0 m pc ls (.int v :: .ref (ad 0) :: rest)) := by
  obtain ⟨hx, hb, hml, hown, ⟨hK, hN⟩, hr, hlk⟩ := C
  exact va_put (D := D) (ci := 7) (v := .int v) (ty := .int) (C := RXR) (T := TXR) (N := 47) hx hb (tc_ht hN tc_in_XR) (fun _ h => h) tyXR tyXR_ok nmXR hown hK hP (hJ σ) hS 0 rfl rfl 3 (by decide) hw (fun _ h9 => h9) rfl (by decide +kernel) rfl rfl (Nat.le_of_ble_eq_true rfl) hdg (fun H1 locs1 h1 _ h3 => kk H1 locs1 h1 h3)
theorem tc_rp1 (C : tc_C p s m args meth c own cc nL ret D cA) (hJ : ∀ σ, va_D A (tc_rW ad cA σ)) (hP : va_P D vwCl (tc_rW ad cA σ) H) (hS : va_S A H0 H locs) (hw : (Cond.fieldLink own index "TwinConsoleModel" "pc" "I").before args s = true) (hdg : decode cc pc = .ok (.putfield index, 3)) (kk : ∀ (H1 : Heap) (locs1 : List Loc), va_P D vwCl (tc_rW ad cA (tc_sf σ 1 v)) H1 → va_S A H0 H1 locs1 → W p l e R s m args below meth c H1 locs1 cells slots Q (F0 m (pc + 3) ls rest)) : W p l e R s m args below meth c H locs cells slots Q (F0 m pc ls (.int v :: .ref (ad 0) :: rest)) := by
  obtain ⟨hx, hb, hml, hown, ⟨hK, hN⟩, hr, hlk⟩ := C
  exact va_put (D := D) (ci := 7) (v := .int v) (ty := .int) (C := RXR) (T := TXR) (N := 47) hx hb (tc_ht hN tc_in_XR) (fun _ h => h) tyXR tyXR_ok nmXR hown hK hP (hJ σ) hS 0 rfl rfl 4 (by decide) hw (fun _ h9 => h9) rfl (by decide +kernel) rfl rfl (Nat.le_of_ble_eq_true rfl) hdg (fun H1 locs1 h1 _ h3 => kk H1 locs1 h1 h3)
theorem tc_rp2 (C : tc_C p s m args meth c own cc nL ret D cA) (hJ : ∀ σ, va_D A (tc_rW ad cA σ)) (hP : va_P D vwCl (tc_rW ad cA σ) H) (hS : va_S A H0 H locs) (hw : (Cond.fieldLink own index "TwinConsoleModel" "mask" "I").before args s = true) (hdg : decode cc pc = .ok (.putfield index, 3)) (kk : ∀ (H1 : Heap) (locs1 : List Loc), va_P D vwCl (tc_rW ad cA (tc_sf σ 2 v)) H1 → va_S A H0 H1 locs1 → W p l e R s m args below meth c H1 locs1 cells slots Q (F0 m (pc + 3) ls rest)) : W p l e R s m args below meth c H locs cells slots Q (F0 m pc ls (.int v :: .ref (ad 0) :: rest)) := by
  obtain ⟨hx, hb, hml, hown, ⟨hK, hN⟩, hr, hlk⟩ := C
  exact va_put (D := D) (ci := 7) (v := .int v) (ty := .int) (C := RXR) (T := TXR) (N := 47) hx hb (tc_ht hN tc_in_XR) (fun _ h => h) tyXR tyXR_ok nmXR hown hK hP (hJ σ) hS 0 rfl rfl 5 (by decide) hw (fun _ h9 => h9) rfl (by decide +kernel) rfl rfl (Nat.le_of_ble_eq_true rfl) hdg (fun H1 locs1 h1 _ h3 => kk H1 locs1 h1 h3)
theorem tc_rp3 (C : tc_C p s m args meth c own cc nL ret D cA) (hJ : ∀ σ, va_D A (tc_rW ad cA σ)) (hP : va_P D vwCl (tc_rW ad cA σ) H) (hS : va_S A H0 H locs) (hw : (Cond.fieldLink own index "TwinConsoleModel" "n" "Z").before args s = true) (hz : narrow .boolean (.int v) = .int v ∧ fits .boolean (.int v) = true) (hdg : decode cc pc = .ok (.putfield index, 3)) (kk : ∀ (H1 : Heap) (locs1 : List Loc), va_P D vwCl (tc_rW ad cA (tc_sf σ 3 v)) H1 → va_S A H0 H1 locs1 → W p l e R s m args below meth c H1 locs1 cells slots Q (F0 m (pc + 3) ls rest)) : W p l e R s m args below meth c H locs cells slots Q (F0 m pc ls (.int v :: .ref (ad 0) :: rest)) := by
  obtain ⟨hx, hb, hml, hown, ⟨hK, hN⟩, hr, hlk⟩ := C
  exact va_put (D := D) (ci := 7) (v := .int v) (ty := .boolean) (C := RXR) (T := TXR) (N := 47) hx hb (tc_ht hN tc_in_XR) (fun _ h => h) tyXR tyXR_ok nmXR hown hK hP (hJ σ) hS 0 rfl rfl 6 (by decide) hw (fun _ h9 => h9) rfl (by decide +kernel) hz.1 hz.2 (Nat.le_of_ble_eq_true rfl) hdg (fun H1 locs1 h1 _ h3 => kk H1 locs1 h1 h3)
theorem tc_rp4 (C : tc_C p s m args meth c own cc nL ret D cA) (hJ : ∀ σ, va_D A (tc_rW ad cA σ)) (hP : va_P D vwCl (tc_rW ad cA σ) H) (hS : va_S A H0 H locs) (hw : (Cond.fieldLink own index "TwinConsoleModel" "z" "Z").before args s = true) (hz : narrow .boolean (.int v) = .int v ∧ fits .boolean (.int v) = true) (hdg : decode cc pc = .ok (.putfield index, 3)) (kk : ∀ (H1 : Heap) (locs1 : List Loc), va_P D vwCl (tc_rW ad cA (tc_sf σ 4 v)) H1 → va_S A H0 H1 locs1 → W p l e R s m args below meth c H1 locs1 cells slots Q (F0 m (pc + 3) ls rest)) : W p l e R s m args below meth c H locs cells slots Q (F0 m pc ls (.int v :: .ref (ad 0) :: rest)) := by
  obtain ⟨hx, hb, hml, hown, ⟨hK, hN⟩, hr, hlk⟩ := C
  exact va_put (D := D) (ci := 7) (v := .int v) (ty := .boolean) (C := RXR) (T := TXR) (N := 47) hx hb (tc_ht hN tc_in_XR) (fun _ h => h) tyXR tyXR_ok nmXR hown hK hP (hJ σ) hS 0 rfl rfl 7 (by decide) hw (fun _ h9 => h9) rfl (by decide +kernel) hz.1 hz.2 (Nat.le_of_ble_eq_true rfl) hdg (fun H1 locs1 h1 _ h3 => kk H1 locs1 h1 h3)
theorem tc_rp5 (C : tc_C p s m args meth c own cc nL ret D cA) (hJ : ∀ σ, va_D A (tc_rW ad cA σ)) (hP : va_P D vwCl (tc_rW ad cA σ) H) (hS : va_S A H0 H locs) (hw : (Cond.fieldLink own index "TwinConsoleModel" "v" "Z").before args s = true) (hz : narrow .boolean (.int v) = .int v ∧ fits .boolean (.int v) = true) (hdg : decode cc pc = .ok (.putfield index, 3)) (kk : ∀ (H1 : Heap) (locs1 : List Loc), va_P D vwCl (tc_rW ad cA (tc_sf σ 5 v)) H1 → va_S A H0 H1 locs1 → W p l e R s m args below meth c H1 locs1 cells slots Q (F0 m (pc + 3) ls rest)) : W p l e R s m args below meth c H locs cells slots Q (F0 m pc ls (.int v :: .ref (ad 0) :: rest)) := by
  obtain ⟨hx, hb, hml, hown, ⟨hK, hN⟩, hr, hlk⟩ := C
  exact va_put (D := D) (ci := 7) (v := .int v) (ty := .boolean) (C := RXR) (T := TXR) (N := 47) hx hb (tc_ht hN tc_in_XR) (fun _ h => h) tyXR tyXR_ok nmXR hown hK hP (hJ σ) hS 0 rfl rfl 8 (by decide) hw (fun _ h9 => h9) rfl (by decide +kernel) hz.1 hz.2 (Nat.le_of_ble_eq_true rfl) hdg (fun H1 locs1 h1 _ h3 => kk H1 locs1 h1 h3)
theorem tc_rp6 (C : tc_C p s m args meth c own cc nL ret D cA) (hJ : ∀ σ, va_D A (tc_rW ad cA σ)) (hP : va_P D vwCl (tc_rW ad cA σ) H) (hS : va_S A H0 H locs) (hw : (Cond.fieldLink own index "TwinConsoleModel" "c" "Z").before args s = true) (hz : narrow .boolean (.int v) = .int v ∧ fits .boolean (.int v) = true) (hdg : decode cc pc = .ok (.putfield index, 3)) (kk : ∀ (H1 : Heap) (locs1 : List Loc), va_P D vwCl (tc_rW ad cA (tc_sf σ 6 v)) H1 → va_S A H0 H1 locs1 → W p l e R s m args below meth c H1 locs1 cells slots Q (F0 m (pc + 3) ls rest)) : W p l e R s m args below meth c H locs cells slots Q (F0 m pc ls (.int v :: .ref (ad 0) :: rest)) := by
  obtain ⟨hx, hb, hml, hown, ⟨hK, hN⟩, hr, hlk⟩ := C
  exact va_put (D := D) (ci := 7) (v := .int v) (ty := .boolean) (C := RXR) (T := TXR) (N := 47) hx hb (tc_ht hN tc_in_XR) (fun _ h => h) tyXR tyXR_ok nmXR hown hK hP (hJ σ) hS 0 rfl rfl 9 (by decide) hw (fun _ h9 => h9) rfl (by decide +kernel) hz.1 hz.2 (Nat.le_of_ble_eq_true rfl) hdg (fun H1 locs1 h1 _ h3 => kk H1 locs1 h1 h3)
theorem tc_rp7 (C : tc_C p s m args meth c own cc nL ret D cA) (hJ : ∀ σ, va_D A (tc_rW ad cA σ)) (hP : va_P D vwCl (tc_rW ad cA σ) H) (hS : va_S A H0 H locs) (hw : (Cond.fieldLink own index "TwinConsoleModel" "waits" "Z").before args s = true) (hz : narrow .boolean (.int v) = .int v ∧ fits .boolean (.int v) = true) (hdg : decode cc pc = .ok (.putfield index, 3)) (kk : ∀ (H1 : Heap) (locs1 : List Loc), va_P D vwCl (tc_rW ad cA (tc_sf σ 7 v)) H1 → va_S A H0 H1 locs1 → W p l e R s m args below meth c H1 locs1 cells slots Q (F0 m (pc + 3) ls rest)) : W p l e R s m args below meth c H locs cells slots Q (F0 m pc ls (.int v :: .ref (ad 0) :: rest)) := by
  obtain ⟨hx, hb, hml, hown, ⟨hK, hN⟩, hr, hlk⟩ := C
  exact va_put (D := D) (ci := 7) (v := .int v) (ty := .boolean) (C := RXR) (T := TXR) (N := 47) hx hb (tc_ht hN tc_in_XR) (fun _ h => h) tyXR tyXR_ok nmXR hown hK hP (hJ σ) hS 0 rfl rfl 10 (by decide) hw (fun _ h9 => h9) rfl (by decide +kernel) hz.1 hz.2 (Nat.le_of_ble_eq_true rfl) hdg (fun H1 locs1 h1 _ h3 => kk H1 locs1 h1 h3)
theorem tc_rr_XR_d (C : tc_C p s m args meth c own cc nL ret D cA) (hP : va_P D vwCl (tc_rW ad cA σ) H) (hw : (Cond.fieldLink own index "TwinConsoleModel" "d" "[I").before args s = true) (hdg : decode cc pc = .ok (.getfield index, 3)) (kk : W p l e R s m args below meth c H locs cells slots Q (F0 m (pc + 3) ls (.ref (ad 3) :: rest))) : W p l e R s m args below meth c H locs cells slots Q (F0 m pc ls (.ref (ad 0) :: rest)) := by
  obtain ⟨hx, hb, hml, hown, ⟨hK, hN⟩, hr, hlk⟩ := C
  exact va_get (D := D) (ci := 7) (v := .ref (ad 3)) (C := RXR) (T := TXR) (N := 47) hx hb (tc_ht hN tc_in_XR) (fun _ h => h) hown hK hP 0 rfl rfl 2 (by decide) hw (fun _ h9 => h9) rfl hdg kk
theorem tc_rst3 (C : tc_C p s m args meth c own cc nL ret D cA) (hJ : ∀ σ, va_D A (tc_rW ad cA σ)) (hP : va_P D vwCl (tc_rW ad cA σ) H) (hS : va_S A H0 H locs) (hi : vp_in i 8) (hdg : decode cc pc = .ok (.iastore, 1)) (kk : ∀ (H1 : Heap) (locs1 : List Loc), va_P D vwCl (tc_rW ad cA (tc_sa σ 0 i v)) H1 → va_S A H0 H1 locs1 → W p l e R s m args below meth c H1 locs1 cells slots Q (F0 m (pc + 1) ls rest)) : W p l e R s m args below meth c H locs cells slots Q (F0 m pc ls (.int v :: .int i :: .ref (ad 3) :: rest)) := by
  obtain ⟨hx, hb, hml, hown, ⟨hK, hN⟩, hr, hlk⟩ := C
  exact va_iast hx hb hK hP (hJ σ) hS 3 0 rfl rfl hi hdg (fun H1 locs1 h1 _ h3 => kk H1 locs1 h1 h3)
theorem tc_rp32 (C : tc_C p s m args meth c own cc nL ret D cA) (hJ : ∀ σ, va_D A (tc_rW ad cA σ)) (hP : va_P D vwCl (tc_rW ad cA σ) H) (hS : va_S A H0 H locs) (hw : (Cond.fieldLink own index "TwinConsoleModel" "padBits" "I").before args s = true) (hdg : decode cc pc = .ok (.putfield index, 3)) (kk : ∀ (H1 : Heap) (locs1 : List Loc), va_P D vwCl (tc_rW ad cA (tc_sf σ 32 v)) H1 → va_S A H0 H1 locs1 → W p l e R s m args below meth c H1 locs1 cells slots Q (F0 m (pc + 3) ls rest)) : W p l e R s m args below meth c H locs cells slots Q (F0 m pc ls (.int v :: .ref (ad 0) :: rest)) := by
  obtain ⟨hx, hb, hml, hown, ⟨hK, hN⟩, hr, hlk⟩ := C
  exact va_put (D := D) (ci := 7) (v := .int v) (ty := .int) (C := RXR) (T := TXR) (N := 47) hx hb (tc_ht hN tc_in_XR) (fun _ h => h) tyXR tyXR_ok nmXR hown hK hP (hJ σ) hS 0 rfl rfl 15 (by decide) hw (fun _ h9 => h9) rfl (by decide +kernel) rfl rfl (Nat.le_of_ble_eq_true rfl) hdg (fun H1 locs1 h1 _ h3 => kk H1 locs1 h1 h3)
theorem tc_rp34 (C : tc_C p s m args meth c own cc nL ret D cA) (hJ : ∀ σ, va_D A (tc_rW ad cA σ)) (hP : va_P D vwCl (tc_rW ad cA σ) H) (hS : va_S A H0 H locs) (hw : (Cond.fieldLink own index "TwinConsoleModel" "extra" "I").before args s = true) (hdg : decode cc pc = .ok (.putfield index, 3)) (kk : ∀ (H1 : Heap) (locs1 : List Loc), va_P D vwCl (tc_rW ad cA (tc_sf σ 34 v)) H1 → va_S A H0 H1 locs1 → W p l e R s m args below meth c H1 locs1 cells slots Q (F0 m (pc + 3) ls rest)) : W p l e R s m args below meth c H locs cells slots Q (F0 m pc ls (.int v :: .ref (ad 0) :: rest)) := by
  obtain ⟨hx, hb, hml, hown, ⟨hK, hN⟩, hr, hlk⟩ := C
  exact va_put (D := D) (ci := 7) (v := .int v) (ty := .int) (C := RXR) (T := TXR) (N := 47) hx hb (tc_ht hN tc_in_XR) (fun _ h => h) tyXR tyXR_ok nmXR hown hK hP (hJ σ) hS 0 rfl rfl 12 (by decide) hw (fun _ h9 => h9) rfl (by decide +kernel) rfl rfl (Nat.le_of_ble_eq_true rfl) hdg (fun H1 locs1 h1 _ h3 => kk H1 locs1 h1 h3)
theorem tc_rg23 (C : tc_C p s m args meth c own cc nL ret D cA) (hP : va_P D vwCl (tc_rW ad cA σ) H) (hw : (Cond.fieldLink own index "TwinConsoleModel" "moving" "I").before args s = true) (hdg : decode cc pc = .ok (.getfield index, 3)) (kk : W p l e R s m args below meth c H locs cells slots Q (F0 m (pc + 3) ls (.int (tc_gf σ 23) :: rest))) : W p l e R s m args below meth c H locs cells slots Q (F0 m pc ls (.ref (ad 0) :: rest)) := by
  obtain ⟨hx, hb, hml, hown, ⟨hK, hN⟩, hr, hlk⟩ := C
  exact va_get (D := D) (ci := 7) (v := .int (tc_gf σ 23)) (C := RXR) (T := TXR) (N := 47) hx hb (tc_ht hN tc_in_XR) (fun _ h => h) hown hK hP 0 rfl rfl 37 (by decide) hw (fun _ h9 => h9) rfl hdg kk
theorem tc_rg31 (C : tc_C p s m args meth c own cc nL ret D cA) (hP : va_P D vwCl (tc_rW ad cA σ) H) (hw : (Cond.fieldLink own index "TwinConsoleModel" "pending6" "Z").before args s = true) (hdg : decode cc pc = .ok (.getfield index, 3)) (kk : W p l e R s m args below meth c H locs cells slots Q (F0 m (pc + 3) ls (.int (tc_gf σ 31) :: rest))) : W p l e R s m args below meth c H locs cells slots Q (F0 m pc ls (.ref (ad 0) :: rest)) := by
  obtain ⟨hx, hb, hml, hown, ⟨hK, hN⟩, hr, hlk⟩ := C
  exact va_get (D := D) (ci := 7) (v := .int (tc_gf σ 31)) (C := RXR) (T := TXR) (N := 47) hx hb (tc_ht hN tc_in_XR) (fun _ h => h) hown hK hP 0 rfl rfl 14 (by decide) hw (fun _ h9 => h9) rfl hdg kk
theorem tc_rg30 (C : tc_C p s m args meth c own cc nL ret D cA) (hP : va_P D vwCl (tc_rW ad cA σ) H) (hw : (Cond.fieldLink own index "TwinConsoleModel" "pending4" "Z").before args s = true) (hdg : decode cc pc = .ok (.getfield index, 3)) (kk : W p l e R s m args below meth c H locs cells slots Q (F0 m (pc + 3) ls (.int (tc_gf σ 30) :: rest))) : W p l e R s m args below meth c H locs cells slots Q (F0 m pc ls (.ref (ad 0) :: rest)) := by
  obtain ⟨hx, hb, hml, hown, ⟨hK, hN⟩, hr, hlk⟩ := C
  exact va_get (D := D) (ci := 7) (v := .int (tc_gf σ 30)) (C := RXR) (T := TXR) (N := 47) hx hb (tc_ht hN tc_in_XR) (fun _ h => h) hown hK hP 0 rfl rfl 13 (by decide) hw (fun _ h9 => h9) rfl hdg kk
theorem tc_rg7 (C : tc_C p s m args meth c own cc nL ret D cA) (hP : va_P D vwCl (tc_rW ad cA σ) H) (hw : (Cond.fieldLink own index "TwinConsoleModel" "waits" "Z").before args s = true) (hdg : decode cc pc = .ok (.getfield index, 3)) (kk : W p l e R s m args below meth c H locs cells slots Q (F0 m (pc + 3) ls (.int (tc_gf σ 7) :: rest))) : W p l e R s m args below meth c H locs cells slots Q (F0 m pc ls (.ref (ad 0) :: rest)) := by
  obtain ⟨hx, hb, hml, hown, ⟨hK, hN⟩, hr, hlk⟩ := C
  exact va_get (D := D) (ci := 7) (v := .int (tc_gf σ 7)) (C := RXR) (T := TXR) (N := 47) hx hb (tc_ht hN tc_in_XR) (fun _ h => h) hown hK hP 0 rfl rfl 10 (by decide) hw (fun _ h9 => h9) rfl hdg kk
theorem tc_rg18 (C : tc_C p s m args meth c own cc nL ret D cA) (hP : va_P D vwCl (tc_rW ad cA σ) H) (hw : (Cond.fieldLink own index "TwinConsoleModel" "debt" "I").before args s = true) (hdg : decode cc pc = .ok (.getfield index, 3)) (kk : W p l e R s m args below meth c H locs cells slots Q (F0 m (pc + 3) ls (.int (tc_gf σ 18) :: rest))) : W p l e R s m args below meth c H locs cells slots Q (F0 m pc ls (.ref (ad 0) :: rest)) := by
  obtain ⟨hx, hb, hml, hown, ⟨hK, hN⟩, hr, hlk⟩ := C
  exact va_get (D := D) (ci := 7) (v := .int (tc_gf σ 18)) (C := RXR) (T := TXR) (N := 47) hx hb (tc_ht hN tc_in_XR) (fun _ h => h) hown hK hP 0 rfl rfl 11 (by decide) hw (fun _ h9 => h9) rfl hdg kk
theorem tc_rp18 (C : tc_C p s m args meth c own cc nL ret D cA) (hJ : ∀ σ, va_D A (tc_rW ad cA σ)) (hP : va_P D vwCl (tc_rW ad cA σ) H) (hS : va_S A H0 H locs) (hw : (Cond.fieldLink own index "TwinConsoleModel" "debt" "I").before args s = true) (hdg : decode cc pc = .ok (.putfield index, 3)) (kk : ∀ (H1 : Heap) (locs1 : List Loc), va_P D vwCl (tc_rW ad cA (tc_sf σ 18 v)) H1 → va_S A H0 H1 locs1 → W p l e R s m args below meth c H1 locs1 cells slots Q (F0 m (pc + 3) ls rest)) : W p l e R s m args below meth c H locs cells slots Q (F0 m pc ls (.int v :: .ref (ad 0) :: rest)) := by
  obtain ⟨hx, hb, hml, hown, ⟨hK, hN⟩, hr, hlk⟩ := C
  exact va_put (D := D) (ci := 7) (v := .int v) (ty := .int) (C := RXR) (T := TXR) (N := 47) hx hb (tc_ht hN tc_in_XR) (fun _ h => h) tyXR tyXR_ok nmXR hown hK hP (hJ σ) hS 0 rfl rfl 11 (by decide) hw (fun _ h9 => h9) rfl (by decide +kernel) rfl rfl (Nat.le_of_ble_eq_true rfl) hdg (fun H1 locs1 h1 _ h3 => kk H1 locs1 h1 h3)
theorem tc_rg1 (C : tc_C p s m args meth c own cc nL ret D cA) (hP : va_P D vwCl (tc_rW ad cA σ) H) (hw : (Cond.fieldLink own index "TwinConsoleModel" "pc" "I").before args s = true) (hdg : decode cc pc = .ok (.getfield index, 3)) (kk : W p l e R s m args below meth c H locs cells slots Q (F0 m (pc + 3) ls (.int (tc_gf σ 1) :: rest))) : W p l e R s m args below meth c H locs cells slots Q (F0 m pc ls (.ref (ad 0) :: rest)) := by
  obtain ⟨hx, hb, hml, hown, ⟨hK, hN⟩, hr, hlk⟩ := C
  exact va_get (D := D) (ci := 7) (v := .int (tc_gf σ 1)) (C := RXR) (T := TXR) (N := 47) hx hb (tc_ht hN tc_in_XR) (fun _ h => h) hown hK hP 0 rfl rfl 4 (by decide) hw (fun _ h9 => h9) rfl hdg kk
theorem tc_rld3 (C : tc_C p s m args meth c own cc nL ret D cA) (hP : va_P D vwCl (tc_rW ad cA σ) H) (hi : vp_in i 8) (hdg : decode cc pc = .ok (.iaload, 1)) (kk : W p l e R s m args below meth c H locs cells slots Q (F0 m (pc + 1) ls (.int (tc_ga σ 0 i) :: rest))) : W p l e R s m args below meth c H locs cells slots Q (F0 m pc ls (.int i :: .ref (ad 3) :: rest)) := by
  obtain ⟨hx, hb, hml, hown, ⟨hK, hN⟩, hr, hlk⟩ := C
  exact va_iald hx hb hK hP 3 0 rfl rfl hi hdg kk
theorem tc_rp33 (C : tc_C p s m args meth c own cc nL ret D cA) (hJ : ∀ σ, va_D A (tc_rW ad cA σ)) (hP : va_P D vwCl (tc_rW ad cA σ) H) (hS : va_S A H0 H locs) (hw : (Cond.fieldLink own index "TwinConsoleModel" "padHigh" "I").before args s = true) (hdg : decode cc pc = .ok (.putfield index, 3)) (kk : ∀ (H1 : Heap) (locs1 : List Loc), va_P D vwCl (tc_rW ad cA (tc_sf σ 33 v)) H1 → va_S A H0 H1 locs1 → W p l e R s m args below meth c H1 locs1 cells slots Q (F0 m (pc + 3) ls rest)) : W p l e R s m args below meth c H locs cells slots Q (F0 m pc ls (.int v :: .ref (ad 0) :: rest)) := by
  obtain ⟨hx, hb, hml, hown, ⟨hK, hN⟩, hr, hlk⟩ := C
  exact va_put (D := D) (ci := 7) (v := .int v) (ty := .int) (C := RXR) (T := TXR) (N := 47) hx hb (tc_ht hN tc_in_XR) (fun _ h => h) tyXR tyXR_ok nmXR hown hK hP (hJ σ) hS 0 rfl rfl 16 (by decide) hw (fun _ h9 => h9) rfl (by decide +kernel) rfl rfl (Nat.le_of_ble_eq_true rfl) hdg (fun H1 locs1 h1 _ h3 => kk H1 locs1 h1 h3)
theorem tc_rp16 (C : tc_C p s m args meth c own cc nL ret D cA) (hJ : ∀ σ, va_D A (tc_rW ad cA σ)) (hP : va_P D vwCl (tc_rW ad cA σ) H) (hS : va_S A H0 H locs) (hw : (Cond.fieldLink own index "TwinConsoleModel" "inReset" "Z").before args s = true) (hz : narrow .boolean (.int v) = .int v ∧ fits .boolean (.int v) = true) (hdg : decode cc pc = .ok (.putfield index, 3)) (kk : ∀ (H1 : Heap) (locs1 : List Loc), va_P D vwCl (tc_rW ad cA (tc_sf σ 16 v)) H1 → va_S A H0 H1 locs1 → W p l e R s m args below meth c H1 locs1 cells slots Q (F0 m (pc + 3) ls rest)) : W p l e R s m args below meth c H locs cells slots Q (F0 m pc ls (.int v :: .ref (ad 0) :: rest)) := by
  obtain ⟨hx, hb, hml, hown, ⟨hK, hN⟩, hr, hlk⟩ := C
  exact va_put (D := D) (ci := 7) (v := .int v) (ty := .boolean) (C := RXR) (T := TXR) (N := 47) hx hb (tc_ht hN tc_in_XR) (fun _ h => h) tyXR tyXR_ok nmXR hown hK hP (hJ σ) hS 0 rfl rfl 26 (by decide) hw (fun _ h9 => h9) rfl (by decide +kernel) hz.1 hz.2 (Nat.le_of_ble_eq_true rfl) hdg (fun H1 locs1 h1 _ h3 => kk H1 locs1 h1 h3)
theorem tc_rp8 (C : tc_C p s m args meth c own cc nL ret D cA) (hJ : ∀ σ, va_D A (tc_rW ad cA σ)) (hP : va_P D vwCl (tc_rW ad cA σ) H) (hS : va_S A H0 H locs) (hw : (Cond.fieldLink own index "TwinConsoleModel" "a" "I").before args s = true) (hdg : decode cc pc = .ok (.putfield index, 3)) (kk : ∀ (H1 : Heap) (locs1 : List Loc), va_P D vwCl (tc_rW ad cA (tc_sf σ 8 v)) H1 → va_S A H0 H1 locs1 → W p l e R s m args below meth c H1 locs1 cells slots Q (F0 m (pc + 3) ls rest)) : W p l e R s m args below meth c H locs cells slots Q (F0 m pc ls (.int v :: .ref (ad 0) :: rest)) := by
  obtain ⟨hx, hb, hml, hown, ⟨hK, hN⟩, hr, hlk⟩ := C
  exact va_put (D := D) (ci := 7) (v := .int v) (ty := .int) (C := RXR) (T := TXR) (N := 47) hx hb (tc_ht hN tc_in_XR) (fun _ h => h) tyXR tyXR_ok nmXR hown hK hP (hJ σ) hS 0 rfl rfl 18 (by decide) hw (fun _ h9 => h9) rfl (by decide +kernel) rfl rfl (Nat.le_of_ble_eq_true rfl) hdg (fun H1 locs1 h1 _ h3 => kk H1 locs1 h1 h3)
theorem tc_rp9 (C : tc_C p s m args meth c own cc nL ret D cA) (hJ : ∀ σ, va_D A (tc_rW ad cA σ)) (hP : va_P D vwCl (tc_rW ad cA σ) H) (hS : va_S A H0 H locs) (hw : (Cond.fieldLink own index "TwinConsoleModel" "b" "I").before args s = true) (hdg : decode cc pc = .ok (.putfield index, 3)) (kk : ∀ (H1 : Heap) (locs1 : List Loc), va_P D vwCl (tc_rW ad cA (tc_sf σ 9 v)) H1 → va_S A H0 H1 locs1 → W p l e R s m args below meth c H1 locs1 cells slots Q (F0 m (pc + 3) ls rest)) : W p l e R s m args below meth c H locs cells slots Q (F0 m pc ls (.int v :: .ref (ad 0) :: rest)) := by
  obtain ⟨hx, hb, hml, hown, ⟨hK, hN⟩, hr, hlk⟩ := C
  exact va_put (D := D) (ci := 7) (v := .int v) (ty := .int) (C := RXR) (T := TXR) (N := 47) hx hb (tc_ht hN tc_in_XR) (fun _ h => h) tyXR tyXR_ok nmXR hown hK hP (hJ σ) hS 0 rfl rfl 19 (by decide) hw (fun _ h9 => h9) rfl (by decide +kernel) rfl rfl (Nat.le_of_ble_eq_true rfl) hdg (fun H1 locs1 h1 _ h3 => kk H1 locs1 h1 h3)
theorem tc_rp10 (C : tc_C p s m args meth c own cc nL ret D cA) (hJ : ∀ σ, va_D A (tc_rW ad cA σ)) (hP : va_P D vwCl (tc_rW ad cA σ) H) (hS : va_S A H0 H locs) (hw : (Cond.fieldLink own index "TwinConsoleModel" "h" "I").before args s = true) (hdg : decode cc pc = .ok (.putfield index, 3)) (kk : ∀ (H1 : Heap) (locs1 : List Loc), va_P D vwCl (tc_rW ad cA (tc_sf σ 10 v)) H1 → va_S A H0 H1 locs1 → W p l e R s m args below meth c H1 locs1 cells slots Q (F0 m (pc + 3) ls rest)) : W p l e R s m args below meth c H locs cells slots Q (F0 m pc ls (.int v :: .ref (ad 0) :: rest)) := by
  obtain ⟨hx, hb, hml, hown, ⟨hK, hN⟩, hr, hlk⟩ := C
  exact va_put (D := D) (ci := 7) (v := .int v) (ty := .int) (C := RXR) (T := TXR) (N := 47) hx hb (tc_ht hN tc_in_XR) (fun _ h => h) tyXR tyXR_ok nmXR hown hK hP (hJ σ) hS 0 rfl rfl 20 (by decide) hw (fun _ h9 => h9) rfl (by decide +kernel) rfl rfl (Nat.le_of_ble_eq_true rfl) hdg (fun H1 locs1 h1 _ h3 => kk H1 locs1 h1 h3)
theorem tc_rp11 (C : tc_C p s m args meth c own cc nL ret D cA) (hJ : ∀ σ, va_D A (tc_rW ad cA σ)) (hP : va_P D vwCl (tc_rW ad cA σ) H) (hS : va_S A H0 H locs) (hw : (Cond.fieldLink own index "TwinConsoleModel" "counter2" "I").before args s = true) (hdg : decode cc pc = .ok (.putfield index, 3)) (kk : ∀ (H1 : Heap) (locs1 : List Loc), va_P D vwCl (tc_rW ad cA (tc_sf σ 11 v)) H1 → va_S A H0 H1 locs1 → W p l e R s m args below meth c H1 locs1 cells slots Q (F0 m (pc + 3) ls rest)) : W p l e R s m args below meth c H locs cells slots Q (F0 m pc ls (.int v :: .ref (ad 0) :: rest)) := by
  obtain ⟨hx, hb, hml, hown, ⟨hK, hN⟩, hr, hlk⟩ := C
  exact va_put (D := D) (ci := 7) (v := .int v) (ty := .int) (C := RXR) (T := TXR) (N := 47) hx hb (tc_ht hN tc_in_XR) (fun _ h => h) tyXR tyXR_ok nmXR hown hK hP (hJ σ) hS 0 rfl rfl 21 (by decide) hw (fun _ h9 => h9) rfl (by decide +kernel) rfl rfl (Nat.le_of_ble_eq_true rfl) hdg (fun H1 locs1 h1 _ h3 => kk H1 locs1 h1 h3)
theorem tc_rp12 (C : tc_C p s m args meth c own cc nL ret D cA) (hJ : ∀ σ, va_D A (tc_rW ad cA σ)) (hP : va_P D vwCl (tc_rW ad cA σ) H) (hS : va_S A H0 H locs) (hw : (Cond.fieldLink own index "TwinConsoleModel" "zero" "Z").before args s = true) (hz : narrow .boolean (.int v) = .int v ∧ fits .boolean (.int v) = true) (hdg : decode cc pc = .ok (.putfield index, 3)) (kk : ∀ (H1 : Heap) (locs1 : List Loc), va_P D vwCl (tc_rW ad cA (tc_sf σ 12 v)) H1 → va_S A H0 H1 locs1 → W p l e R s m args below meth c H1 locs1 cells slots Q (F0 m (pc + 3) ls rest)) : W p l e R s m args below meth c H locs cells slots Q (F0 m pc ls (.int v :: .ref (ad 0) :: rest)) := by
  obtain ⟨hx, hb, hml, hown, ⟨hK, hN⟩, hr, hlk⟩ := C
  exact va_put (D := D) (ci := 7) (v := .int v) (ty := .boolean) (C := RXR) (T := TXR) (N := 47) hx hb (tc_ht hN tc_in_XR) (fun _ h => h) tyXR tyXR_ok nmXR hown hK hP (hJ σ) hS 0 rfl rfl 22 (by decide) hw (fun _ h9 => h9) rfl (by decide +kernel) hz.1 hz.2 (Nat.le_of_ble_eq_true rfl) hdg (fun H1 locs1 h1 _ h3 => kk H1 locs1 h1 h3)
theorem tc_rp13 (C : tc_C p s m args meth c own cc nL ret D cA) (hJ : ∀ σ, va_D A (tc_rW ad cA σ)) (hP : va_P D vwCl (tc_rW ad cA σ) H) (hS : va_S A H0 H locs) (hw : (Cond.fieldLink own index "TwinConsoleModel" "halted" "Z").before args s = true) (hz : narrow .boolean (.int v) = .int v ∧ fits .boolean (.int v) = true) (hdg : decode cc pc = .ok (.putfield index, 3)) (kk : ∀ (H1 : Heap) (locs1 : List Loc), va_P D vwCl (tc_rW ad cA (tc_sf σ 13 v)) H1 → va_S A H0 H1 locs1 → W p l e R s m args below meth c H1 locs1 cells slots Q (F0 m (pc + 3) ls rest)) : W p l e R s m args below meth c H locs cells slots Q (F0 m pc ls (.int v :: .ref (ad 0) :: rest)) := by
  obtain ⟨hx, hb, hml, hown, ⟨hK, hN⟩, hr, hlk⟩ := C
  exact va_put (D := D) (ci := 7) (v := .int v) (ty := .boolean) (C := RXR) (T := TXR) (N := 47) hx hb (tc_ht hN tc_in_XR) (fun _ h => h) tyXR tyXR_ok nmXR hown hK hP (hJ σ) hS 0 rfl rfl 23 (by decide) hw (fun _ h9 => h9) rfl (by decide +kernel) hz.1 hz.2 (Nat.le_of_ble_eq_true rfl) hdg (fun H1 locs1 h1 _ h3 => kk H1 locs1 h1 h3)
theorem tc_rp14 (C : tc_C p s m args meth c own cc nL ret D cA) (hJ : ∀ σ, va_D A (tc_rW ad cA σ)) (hP : va_P D vwCl (tc_rW ad cA σ) H) (hS : va_S A H0 H locs) (hw : (Cond.fieldLink own index "TwinConsoleModel" "lets" "Z").before args s = true) (hz : narrow .boolean (.int v) = .int v ∧ fits .boolean (.int v) = true) (hdg : decode cc pc = .ok (.putfield index, 3)) (kk : ∀ (H1 : Heap) (locs1 : List Loc), va_P D vwCl (tc_rW ad cA (tc_sf σ 14 v)) H1 → va_S A H0 H1 locs1 → W p l e R s m args below meth c H1 locs1 cells slots Q (F0 m (pc + 3) ls rest)) : W p l e R s m args below meth c H locs cells slots Q (F0 m pc ls (.int v :: .ref (ad 0) :: rest)) := by
  obtain ⟨hx, hb, hml, hown, ⟨hK, hN⟩, hr, hlk⟩ := C
  exact va_put (D := D) (ci := 7) (v := .int v) (ty := .boolean) (C := RXR) (T := TXR) (N := 47) hx hb (tc_ht hN tc_in_XR) (fun _ h => h) tyXR tyXR_ok nmXR hown hK hP (hJ σ) hS 0 rfl rfl 24 (by decide) hw (fun _ h9 => h9) rfl (by decide +kernel) hz.1 hz.2 (Nat.le_of_ble_eq_true rfl) hdg (fun H1 locs1 h1 _ h3 => kk H1 locs1 h1 h3)
theorem tc_rp17 (C : tc_C p s m args meth c own cc nL ret D cA) (hJ : ∀ σ, va_D A (tc_rW ad cA σ)) (hP : va_P D vwCl (tc_rW ad cA σ) H) (hS : va_S A H0 H locs) (hw : (Cond.fieldLink own index "TwinConsoleModel" "left" "I").before args s = true) (hdg : decode cc pc = .ok (.putfield index, 3)) (kk : ∀ (H1 : Heap) (locs1 : List Loc), va_P D vwCl (tc_rW ad cA (tc_sf σ 17 v)) H1 → va_S A H0 H1 locs1 → W p l e R s m args below meth c H1 locs1 cells slots Q (F0 m (pc + 3) ls rest)) : W p l e R s m args below meth c H locs cells slots Q (F0 m pc ls (.int v :: .ref (ad 0) :: rest)) := by
  obtain ⟨hx, hb, hml, hown, ⟨hK, hN⟩, hr, hlk⟩ := C
  exact va_put (D := D) (ci := 7) (v := .int v) (ty := .int) (C := RXR) (T := TXR) (N := 47) hx hb (tc_ht hN tc_in_XR) (fun _ h => h) tyXR tyXR_ok nmXR hown hK hP (hJ σ) hS 0 rfl rfl 27 (by decide) hw (fun _ h9 => h9) rfl (by decide +kernel) rfl rfl (Nat.le_of_ble_eq_true rfl) hdg (fun H1 locs1 h1 _ h3 => kk H1 locs1 h1 h3)
theorem tc_rp15 (C : tc_C p s m args meth c own cc nL ret D cA) (hJ : ∀ σ, va_D A (tc_rW ad cA σ)) (hP : va_P D vwCl (tc_rW ad cA σ) H) (hS : va_S A H0 H locs) (hw : (Cond.fieldLink own index "TwinConsoleModel" "held" "Z").before args s = true) (hz : narrow .boolean (.int v) = .int v ∧ fits .boolean (.int v) = true) (hdg : decode cc pc = .ok (.putfield index, 3)) (kk : ∀ (H1 : Heap) (locs1 : List Loc), va_P D vwCl (tc_rW ad cA (tc_sf σ 15 v)) H1 → va_S A H0 H1 locs1 → W p l e R s m args below meth c H1 locs1 cells slots Q (F0 m (pc + 3) ls rest)) : W p l e R s m args below meth c H locs cells slots Q (F0 m pc ls (.int v :: .ref (ad 0) :: rest)) := by
  obtain ⟨hx, hb, hml, hown, ⟨hK, hN⟩, hr, hlk⟩ := C
  exact va_put (D := D) (ci := 7) (v := .int v) (ty := .boolean) (C := RXR) (T := TXR) (N := 47) hx hb (tc_ht hN tc_in_XR) (fun _ h => h) tyXR tyXR_ok nmXR hown hK hP (hJ σ) hS 0 rfl rfl 25 (by decide) hw (fun _ h9 => h9) rfl (by decide +kernel) hz.1 hz.2 (Nat.le_of_ble_eq_true rfl) hdg (fun H1 locs1 h1 _ h3 => kk H1 locs1 h1 h3)
theorem tc_rg21 (C : tc_C p s m args meth c own cc nL ret D cA) (hP : va_P D vwCl (tc_rW ad cA σ) H) (hw : (Cond.fieldLink own index "TwinConsoleModel" "waitsWord" "Z").before args s = true) (hdg : decode cc pc = .ok (.getfield index, 3)) (kk : W p l e R s m args below meth c H locs cells slots Q (F0 m (pc + 3) ls (.int (tc_gf σ 21) :: rest))) : W p l e R s m args below meth c H locs cells slots Q (F0 m pc ls (.ref (ad 0) :: rest)) := by
  obtain ⟨hx, hb, hml, hown, ⟨hK, hN⟩, hr, hlk⟩ := C
  exact va_get (D := D) (ci := 7) (v := .int (tc_gf σ 21)) (C := RXR) (T := TXR) (N := 47) hx hb (tc_ht hN tc_in_XR) (fun _ h => h) hown hK hP 0 rfl rfl 35 (by decide) hw (fun _ h9 => h9) rfl hdg kk
theorem tc_rg19 (C : tc_C p s m args meth c own cc nL ret D cA) (hP : va_P D vwCl (tc_rW ad cA σ) H) (hw : (Cond.fieldLink own index "TwinConsoleModel" "address" "I").before args s = true) (hdg : decode cc pc = .ok (.getfield index, 3)) (kk : W p l e R s m args below meth c H locs cells slots Q (F0 m (pc + 3) ls (.int (tc_gf σ 19) :: rest))) : W p l e R s m args below meth c H locs cells slots Q (F0 m pc ls (.ref (ad 0) :: rest)) := by
  obtain ⟨hx, hb, hml, hown, ⟨hK, hN⟩, hr, hlk⟩ := C
  exact va_get (D := D) (ci := 7) (v := .int (tc_gf σ 19)) (C := RXR) (T := TXR) (N := 47) hx hb (tc_ht hN tc_in_XR) (fun _ h => h) hown hK hP 0 rfl rfl 33 (by decide) hw (fun _ h9 => h9) rfl hdg kk
theorem tc_rp19 (C : tc_C p s m args meth c own cc nL ret D cA) (hJ : ∀ σ, va_D A (tc_rW ad cA σ)) (hP : va_P D vwCl (tc_rW ad cA σ) H) (hS : va_S A H0 H locs) (hw : (Cond.fieldLink own index "TwinConsoleModel" "address" "I").before args s = true) (hdg : decode cc pc = .ok (.putfield index, 3)) (kk : ∀ (H1 : Heap) (locs1 : List Loc), va_P D vwCl (tc_rW ad cA (tc_sf σ 19 v)) H1 → va_S A H0 H1 locs1 → W p l e R s m args below meth c H1 locs1 cells slots Q (F0 m (pc + 3) ls rest)) : W p l e R s m args below meth c H locs cells slots Q (F0 m pc ls (.int v :: .ref (ad 0) :: rest)) := by
  obtain ⟨hx, hb, hml, hown, ⟨hK, hN⟩, hr, hlk⟩ := C
  exact va_put (D := D) (ci := 7) (v := .int v) (ty := .int) (C := RXR) (T := TXR) (N := 47) hx hb (tc_ht hN tc_in_XR) (fun _ h => h) tyXR tyXR_ok nmXR hown hK hP (hJ σ) hS 0 rfl rfl 33 (by decide) hw (fun _ h9 => h9) rfl (by decide +kernel) rfl rfl (Nat.le_of_ble_eq_true rfl) hdg (fun H1 locs1 h1 _ h3 => kk H1 locs1 h1 h3)
theorem tc_rg20 (C : tc_C p s m args meth c own cc nL ret D cA) (hP : va_P D vwCl (tc_rW ad cA σ) H) (hw : (Cond.fieldLink own index "TwinConsoleModel" "code" "I").before args s = true) (hdg : decode cc pc = .ok (.getfield index, 3)) (kk : W p l e R s m args below meth c H locs cells slots Q (F0 m (pc + 3) ls (.int (tc_gf σ 20) :: rest))) : W p l e R s m args below meth c H locs cells slots Q (F0 m pc ls (.ref (ad 0) :: rest)) := by
  obtain ⟨hx, hb, hml, hown, ⟨hK, hN⟩, hr, hlk⟩ := C
  exact va_get (D := D) (ci := 7) (v := .int (tc_gf σ 20)) (C := RXR) (T := TXR) (N := 47) hx hb (tc_ht hN tc_in_XR) (fun _ h => h) hown hK hP 0 rfl rfl 34 (by decide) hw (fun _ h9 => h9) rfl hdg kk
theorem tc_rp20 (C : tc_C p s m args meth c own cc nL ret D cA) (hJ : ∀ σ, va_D A (tc_rW ad cA σ)) (hP : va_P D vwCl (tc_rW ad cA σ) H) (hS : va_S A H0 H locs) (hw : (Cond.fieldLink own index "TwinConsoleModel" "code" "I").before args s = true) (hdg : decode cc pc = .ok (.putfield index, 3)) (kk : ∀ (H1 : Heap) (locs1 : List Loc), va_P D vwCl (tc_rW ad cA (tc_sf σ 20 v)) H1 → va_S A H0 H1 locs1 → W p l e R s m args below meth c H1 locs1 cells slots Q (F0 m (pc + 3) ls rest)) : W p l e R s m args below meth c H locs cells slots Q (F0 m pc ls (.int v :: .ref (ad 0) :: rest)) := by
  obtain ⟨hx, hb, hml, hown, ⟨hK, hN⟩, hr, hlk⟩ := C
  exact va_put (D := D) (ci := 7) (v := .int v) (ty := .int) (C := RXR) (T := TXR) (N := 47) hx hb (tc_ht hN tc_in_XR) (fun _ h => h) tyXR tyXR_ok nmXR hown hK hP (hJ σ) hS 0 rfl rfl 34 (by decide) hw (fun _ h9 => h9) rfl (by decide +kernel) rfl rfl (Nat.le_of_ble_eq_true rfl) hdg (fun H1 locs1 h1 _ h3 => kk H1 locs1 h1 h3)
theorem tc_rp21 (C : tc_C p s m args meth c own cc nL ret D cA) (hJ : ∀ σ, va_D A (tc_rW ad cA σ)) (hP : va_P D vwCl (tc_rW ad cA σ) H) (hS : va_S A H0 H locs) (hw : (Cond.fieldLink own index "TwinConsoleModel" "waitsWord" "Z").before args s = true) (hz : narrow .boolean (.int v) = .int v ∧ fits .boolean (.int v) = true) (hdg : decode cc pc = .ok (.putfield index, 3)) (kk : ∀ (H1 : Heap) (locs1 : List Loc), va_P D vwCl (tc_rW ad cA (tc_sf σ 21 v)) H1 → va_S A H0 H1 locs1 → W p l e R s m args below meth c H1 locs1 cells slots Q (F0 m (pc + 3) ls rest)) : W p l e R s m args below meth c H locs cells slots Q (F0 m pc ls (.int v :: .ref (ad 0) :: rest)) := by
  obtain ⟨hx, hb, hml, hown, ⟨hK, hN⟩, hr, hlk⟩ := C
  exact va_put (D := D) (ci := 7) (v := .int v) (ty := .boolean) (C := RXR) (T := TXR) (N := 47) hx hb (tc_ht hN tc_in_XR) (fun _ h => h) tyXR tyXR_ok nmXR hown hK hP (hJ σ) hS 0 rfl rfl 35 (by decide) hw (fun _ h9 => h9) rfl (by decide +kernel) hz.1 hz.2 (Nat.le_of_ble_eq_true rfl) hdg (fun H1 locs1 h1 _ h3 => kk H1 locs1 h1 h3)
theorem tc_rr_XR_regs (C : tc_C p s m args meth c own cc nL ret D cA) (hP : va_P D vwCl (tc_rW ad cA σ) H) (hw : (Cond.fieldLink own index "TwinConsoleModel" "regs" "[I").before args s = true) (hdg : decode cc pc = .ok (.getfield index, 3)) (kk : W p l e R s m args below meth c H locs cells slots Q (F0 m (pc + 3) ls (.ref (ad 8) :: rest))) : W p l e R s m args below meth c H locs cells slots Q (F0 m pc ls (.ref (ad 0) :: rest)) := by
  obtain ⟨hx, hb, hml, hown, ⟨hK, hN⟩, hr, hlk⟩ := C
  exact va_get (D := D) (ci := 7) (v := .ref (ad 8)) (C := RXR) (T := TXR) (N := 47) hx hb (tc_ht hN tc_in_XR) (fun _ h => h) hown hK hP 0 rfl rfl 32 (by decide) hw (fun _ h9 => h9) rfl hdg kk
theorem tc_rst8 (C : tc_C p s m args meth c own cc nL ret D cA) (hJ : ∀ σ, va_D A (tc_rW ad cA σ)) (hP : va_P D vwCl (tc_rW ad cA σ) H) (hS : va_S A H0 H locs) (hi : vp_in i 16) (hdg : decode cc pc = .ok (.iastore, 1)) (kk : ∀ (H1 : Heap) (locs1 : List Loc), va_P D vwCl (tc_rW ad cA (tc_sa σ 5 i v)) H1 → va_S A H0 H1 locs1 → W p l e R s m args below meth c H1 locs1 cells slots Q (F0 m (pc + 1) ls rest)) : W p l e R s m args below meth c H locs cells slots Q (F0 m pc ls (.int v :: .int i :: .ref (ad 8) :: rest)) := by
  obtain ⟨hx, hb, hml, hown, ⟨hK, hN⟩, hr, hlk⟩ := C
  exact va_iast hx hb hK hP (hJ σ) hS 8 0 rfl rfl hi hdg (fun H1 locs1 h1 _ h3 => kk H1 locs1 h1 h3)
theorem tc_rld8 (C : tc_C p s m args meth c own cc nL ret D cA) (hP : va_P D vwCl (tc_rW ad cA σ) H) (hi : vp_in i 16) (hdg : decode cc pc = .ok (.iaload, 1)) (kk : W p l e R s m args below meth c H locs cells slots Q (F0 m (pc + 1) ls (.int (tc_ga σ 5 i) :: rest))) : W p l e R s m args below meth c H locs cells slots Q (F0 m pc ls (.int i :: .ref (ad 8) :: rest)) := by
  obtain ⟨hx, hb, hml, hown, ⟨hK, hN⟩, hr, hlk⟩ := C
  exact va_iald hx hb hK hP 8 0 rfl rfl hi hdg kk
theorem tc_rr_XR_vram (C : tc_C p s m args meth c own cc nL ret D cA) (hP : va_P D vwCl (tc_rW ad cA σ) H) (hw : (Cond.fieldLink own index "TwinConsoleModel" "vram" "[I").before args s = true) (hdg : decode cc pc = .ok (.getfield index, 3)) (kk : W p l e R s m args below meth c H locs cells slots Q (F0 m (pc + 3) ls (.ref (ad 5) :: rest))) : W p l e R s m args below meth c H locs cells slots Q (F0 m pc ls (.ref (ad 0) :: rest)) := by
  obtain ⟨hx, hb, hml, hown, ⟨hK, hN⟩, hr, hlk⟩ := C
  exact va_get (D := D) (ci := 7) (v := .ref (ad 5)) (C := RXR) (T := TXR) (N := 47) hx hb (tc_ht hN tc_in_XR) (fun _ h => h) hown hK hP 0 rfl rfl 29 (by decide) hw (fun _ h9 => h9) rfl hdg kk
theorem tc_rld5 (C : tc_C p s m args meth c own cc nL ret D cA) (hP : va_P D vwCl (tc_rW ad cA σ) H) (hi : vp_in i 1024) (hdg : decode cc pc = .ok (.iaload, 1)) (kk : W p l e R s m args below meth c H locs cells slots Q (F0 m (pc + 1) ls (.int (tc_ga σ 2 i) :: rest))) : W p l e R s m args below meth c H locs cells slots Q (F0 m pc ls (.int i :: .ref (ad 5) :: rest)) := by
  obtain ⟨hx, hb, hml, hown, ⟨hK, hN⟩, hr, hlk⟩ := C
  exact va_iald hx hb hK hP 5 0 rfl rfl hi hdg kk
theorem tc_rst5 (C : tc_C p s m args meth c own cc nL ret D cA) (hJ : ∀ σ, va_D A (tc_rW ad cA σ)) (hP : va_P D vwCl (tc_rW ad cA σ) H) (hS : va_S A H0 H locs) (hi : vp_in i 1024) (hdg : decode cc pc = .ok (.iastore, 1)) (kk : ∀ (H1 : Heap) (locs1 : List Loc), va_P D vwCl (tc_rW ad cA (tc_sa σ 2 i v)) H1 → va_S A H0 H1 locs1 → W p l e R s m args below meth c H1 locs1 cells slots Q (F0 m (pc + 1) ls rest)) : W p l e R s m args below meth c H locs cells slots Q (F0 m pc ls (.int v :: .int i :: .ref (ad 5) :: rest)) := by
  obtain ⟨hx, hb, hml, hown, ⟨hK, hN⟩, hr, hlk⟩ := C
  exact va_iast hx hb hK hP (hJ σ) hS 5 0 rfl rfl hi hdg (fun H1 locs1 h1 _ h3 => kk H1 locs1 h1 h3)
theorem tc_rp22 (C : tc_C p s m args meth c own cc nL ret D cA) (hJ : ∀ σ, va_D A (tc_rW ad cA σ)) (hP : va_P D vwCl (tc_rW ad cA σ) H) (hS : va_S A H0 H locs) (hw : (Cond.fieldLink own index "TwinConsoleModel" "waitsFill" "Z").before args s = true) (hz : narrow .boolean (.int v) = .int v ∧ fits .boolean (.int v) = true) (hdg : decode cc pc = .ok (.putfield index, 3)) (kk : ∀ (H1 : Heap) (locs1 : List Loc), va_P D vwCl (tc_rW ad cA (tc_sf σ 22 v)) H1 → va_S A H0 H1 locs1 → W p l e R s m args below meth c H1 locs1 cells slots Q (F0 m (pc + 3) ls rest)) : W p l e R s m args below meth c H locs cells slots Q (F0 m pc ls (.int v :: .ref (ad 0) :: rest)) := by
  obtain ⟨hx, hb, hml, hown, ⟨hK, hN⟩, hr, hlk⟩ := C
  exact va_put (D := D) (ci := 7) (v := .int v) (ty := .boolean) (C := RXR) (T := TXR) (N := 47) hx hb (tc_ht hN tc_in_XR) (fun _ h => h) tyXR tyXR_ok nmXR hown hK hP (hJ σ) hS 0 rfl rfl 36 (by decide) hw (fun _ h9 => h9) rfl (by decide +kernel) hz.1 hz.2 (Nat.le_of_ble_eq_true rfl) hdg (fun H1 locs1 h1 _ h3 => kk H1 locs1 h1 h3)
theorem tc_rp23 (C : tc_C p s m args meth c own cc nL ret D cA) (hJ : ∀ σ, va_D A (tc_rW ad cA σ)) (hP : va_P D vwCl (tc_rW ad cA σ) H) (hS : va_S A H0 H locs) (hw : (Cond.fieldLink own index "TwinConsoleModel" "moving" "I").before args s = true) (hdg : decode cc pc = .ok (.putfield index, 3)) (kk : ∀ (H1 : Heap) (locs1 : List Loc), va_P D vwCl (tc_rW ad cA (tc_sf σ 23 v)) H1 → va_S A H0 H1 locs1 → W p l e R s m args below meth c H1 locs1 cells slots Q (F0 m (pc + 3) ls rest)) : W p l e R s m args below meth c H locs cells slots Q (F0 m pc ls (.int v :: .ref (ad 0) :: rest)) := by
  obtain ⟨hx, hb, hml, hown, ⟨hK, hN⟩, hr, hlk⟩ := C
  exact va_put (D := D) (ci := 7) (v := .int v) (ty := .int) (C := RXR) (T := TXR) (N := 47) hx hb (tc_ht hN tc_in_XR) (fun _ h => h) tyXR tyXR_ok nmXR hown hK hP (hJ σ) hS 0 rfl rfl 37 (by decide) hw (fun _ h9 => h9) rfl (by decide +kernel) rfl rfl (Nat.le_of_ble_eq_true rfl) hdg (fun H1 locs1 h1 _ h3 => kk H1 locs1 h1 h3)
theorem tc_rp24 (C : tc_C p s m args meth c own cc nL ret D cA) (hJ : ∀ σ, va_D A (tc_rW ad cA σ)) (hP : va_P D vwCl (tc_rW ad cA σ) H) (hS : va_S A H0 H locs) (hw : (Cond.fieldLink own index "TwinConsoleModel" "source" "I").before args s = true) (hdg : decode cc pc = .ok (.putfield index, 3)) (kk : ∀ (H1 : Heap) (locs1 : List Loc), va_P D vwCl (tc_rW ad cA (tc_sf σ 24 v)) H1 → va_S A H0 H1 locs1 → W p l e R s m args below meth c H1 locs1 cells slots Q (F0 m (pc + 3) ls rest)) : W p l e R s m args below meth c H locs cells slots Q (F0 m pc ls (.int v :: .ref (ad 0) :: rest)) := by
  obtain ⟨hx, hb, hml, hown, ⟨hK, hN⟩, hr, hlk⟩ := C
  exact va_put (D := D) (ci := 7) (v := .int v) (ty := .int) (C := RXR) (T := TXR) (N := 47) hx hb (tc_ht hN tc_in_XR) (fun _ h => h) tyXR tyXR_ok nmXR hown hK hP (hJ σ) hS 0 rfl rfl 38 (by decide) hw (fun _ h9 => h9) rfl (by decide +kernel) rfl rfl (Nat.le_of_ble_eq_true rfl) hdg (fun H1 locs1 h1 _ h3 => kk H1 locs1 h1 h3)
theorem tc_rr_XR_vsram (C : tc_C p s m args meth c own cc nL ret D cA) (hP : va_P D vwCl (tc_rW ad cA σ) H) (hw : (Cond.fieldLink own index "TwinConsoleModel" "vsram" "[I").before args s = true) (hdg : decode cc pc = .ok (.getfield index, 3)) (kk : W p l e R s m args below meth c H locs cells slots Q (F0 m (pc + 3) ls (.ref (ad 7) :: rest))) : W p l e R s m args below meth c H locs cells slots Q (F0 m pc ls (.ref (ad 0) :: rest)) := by
  obtain ⟨hx, hb, hml, hown, ⟨hK, hN⟩, hr, hlk⟩ := C
  exact va_get (D := D) (ci := 7) (v := .ref (ad 7)) (C := RXR) (T := TXR) (N := 47) hx hb (tc_ht hN tc_in_XR) (fun _ h => h) hown hK hP 0 rfl rfl 31 (by decide) hw (fun _ h9 => h9) rfl hdg kk
theorem tc_rst7 (C : tc_C p s m args meth c own cc nL ret D cA) (hJ : ∀ σ, va_D A (tc_rW ad cA σ)) (hP : va_P D vwCl (tc_rW ad cA σ) H) (hS : va_S A H0 H locs) (hi : vp_in i 2) (hdg : decode cc pc = .ok (.iastore, 1)) (kk : ∀ (H1 : Heap) (locs1 : List Loc), va_P D vwCl (tc_rW ad cA (tc_sa σ 4 i v)) H1 → va_S A H0 H1 locs1 → W p l e R s m args below meth c H1 locs1 cells slots Q (F0 m (pc + 1) ls rest)) : W p l e R s m args below meth c H locs cells slots Q (F0 m pc ls (.int v :: .int i :: .ref (ad 7) :: rest)) := by
  obtain ⟨hx, hb, hml, hown, ⟨hK, hN⟩, hr, hlk⟩ := C
  exact va_iast hx hb hK hP (hJ σ) hS 7 0 rfl rfl hi hdg (fun H1 locs1 h1 _ h3 => kk H1 locs1 h1 h3)
theorem tc_rr_XR_cram (C : tc_C p s m args meth c own cc nL ret D cA) (hP : va_P D vwCl (tc_rW ad cA σ) H) (hw : (Cond.fieldLink own index "TwinConsoleModel" "cram" "[I").before args s = true) (hdg : decode cc pc = .ok (.getfield index, 3)) (kk : W p l e R s m args below meth c H locs cells slots Q (F0 m (pc + 3) ls (.ref (ad 6) :: rest))) : W p l e R s m args below meth c H locs cells slots Q (F0 m pc ls (.ref (ad 0) :: rest)) := by
  obtain ⟨hx, hb, hml, hown, ⟨hK, hN⟩, hr, hlk⟩ := C
  exact va_get (D := D) (ci := 7) (v := .ref (ad 6)) (C := RXR) (T := TXR) (N := 47) hx hb (tc_ht hN tc_in_XR) (fun _ h => h) hown hK hP 0 rfl rfl 30 (by decide) hw (fun _ h9 => h9) rfl hdg kk
theorem tc_rst6 (C : tc_C p s m args meth c own cc nL ret D cA) (hJ : ∀ σ, va_D A (tc_rW ad cA σ)) (hP : va_P D vwCl (tc_rW ad cA σ) H) (hS : va_S A H0 H locs) (hi : vp_in i 16) (hdg : decode cc pc = .ok (.iastore, 1)) (kk : ∀ (H1 : Heap) (locs1 : List Loc), va_P D vwCl (tc_rW ad cA (tc_sa σ 3 i v)) H1 → va_S A H0 H1 locs1 → W p l e R s m args below meth c H1 locs1 cells slots Q (F0 m (pc + 1) ls rest)) : W p l e R s m args below meth c H locs cells slots Q (F0 m pc ls (.int v :: .int i :: .ref (ad 6) :: rest)) := by
  obtain ⟨hx, hb, hml, hown, ⟨hK, hN⟩, hr, hlk⟩ := C
  exact va_iast hx hb hK hP (hJ σ) hS 6 0 rfl rfl hi hdg (fun H1 locs1 h1 _ h3 => kk H1 locs1 h1 h3)
theorem tc_rg22 (C : tc_C p s m args meth c own cc nL ret D cA) (hP : va_P D vwCl (tc_rW ad cA σ) H) (hw : (Cond.fieldLink own index "TwinConsoleModel" "waitsFill" "Z").before args s = true) (hdg : decode cc pc = .ok (.getfield index, 3)) (kk : W p l e R s m args below meth c H locs cells slots Q (F0 m (pc + 3) ls (.int (tc_gf σ 22) :: rest))) : W p l e R s m args below meth c H locs cells slots Q (F0 m pc ls (.ref (ad 0) :: rest)) := by
  obtain ⟨hx, hb, hml, hown, ⟨hK, hN⟩, hr, hlk⟩ := C
  exact va_get (D := D) (ci := 7) (v := .int (tc_gf σ 22)) (C := RXR) (T := TXR) (N := 47) hx hb (tc_ht hN tc_in_XR) (fun _ h => h) hown hK hP 0 rfl rfl 36 (by decide) hw (fun _ h9 => h9) rfl hdg kk
theorem tc_rst4 (C : tc_C p s m args meth c own cc nL ret D cA) (hJ : ∀ σ, va_D A (tc_rW ad cA σ)) (hP : va_P D vwCl (tc_rW ad cA σ) H) (hS : va_S A H0 H locs) (hi : vp_in i 128) (hdg : decode cc pc = .ok (.iastore, 1)) (kk : ∀ (H1 : Heap) (locs1 : List Loc), va_P D vwCl (tc_rW ad cA (tc_sa σ 1 i v)) H1 → va_S A H0 H1 locs1 → W p l e R s m args below meth c H1 locs1 cells slots Q (F0 m (pc + 1) ls rest)) : W p l e R s m args below meth c H locs cells slots Q (F0 m pc ls (.int v :: .int i :: .ref (ad 4) :: rest)) := by
  obtain ⟨hx, hb, hml, hown, ⟨hK, hN⟩, hr, hlk⟩ := C
  exact va_iast hx hb hK hP (hJ σ) hS 4 0 rfl rfl hi hdg (fun H1 locs1 h1 _ h3 => kk H1 locs1 h1 h3)
theorem tc_rst2 (C : tc_C p s m args meth c own cc nL ret D cA) (hJ : ∀ σ, va_D A (tc_rW ad cA σ)) (hP : va_P D vwCl (tc_rW ad cA σ) H) (hS : va_S A H0 H locs) (hi : vp_in i 128) (hdg : decode cc pc = .ok (.iastore, 1)) (kk : ∀ (H1 : Heap) (locs1 : List Loc), va_P D vwCl (tc_rW ad cA (tc_sa σ 8 i v)) H1 → va_S A H0 H1 locs1 → W p l e R s m args below meth c H1 locs1 cells slots Q (F0 m (pc + 1) ls rest)) : W p l e R s m args below meth c H locs cells slots Q (F0 m pc ls (.int v :: .int i :: .ref (ad 2) :: rest)) := by
  obtain ⟨hx, hb, hml, hown, ⟨hK, hN⟩, hr, hlk⟩ := C
  exact va_iast hx hb hK hP (hJ σ) hS 2 0 rfl rfl hi hdg (fun H1 locs1 h1 _ h3 => kk H1 locs1 h1 h3)
theorem tc_rld7 (C : tc_C p s m args meth c own cc nL ret D cA) (hP : va_P D vwCl (tc_rW ad cA σ) H) (hi : vp_in i 2) (hdg : decode cc pc = .ok (.iaload, 1)) (kk : W p l e R s m args below meth c H locs cells slots Q (F0 m (pc + 1) ls (.int (tc_ga σ 4 i) :: rest))) : W p l e R s m args below meth c H locs cells slots Q (F0 m pc ls (.int i :: .ref (ad 7) :: rest)) := by
  obtain ⟨hx, hb, hml, hown, ⟨hK, hN⟩, hr, hlk⟩ := C
  exact va_iald hx hb hK hP 7 0 rfl rfl hi hdg kk
theorem tc_rld6 (C : tc_C p s m args meth c own cc nL ret D cA) (hP : va_P D vwCl (tc_rW ad cA σ) H) (hi : vp_in i 16) (hdg : decode cc pc = .ok (.iaload, 1)) (kk : W p l e R s m args below meth c H locs cells slots Q (F0 m (pc + 1) ls (.int (tc_ga σ 3 i) :: rest))) : W p l e R s m args below meth c H locs cells slots Q (F0 m pc ls (.int i :: .ref (ad 6) :: rest)) := by
  obtain ⟨hx, hb, hml, hown, ⟨hK, hN⟩, hr, hlk⟩ := C
  exact va_iald hx hb hK hP 6 0 rfl rfl hi hdg kk
theorem tc_rg27 (C : tc_C p s m args meth c own cc nL ret D cA) (hP : va_P D vwCl (tc_rW ad cA σ) H) (hw : (Cond.fieldLink own index "TwinConsoleModel" "line" "I").before args s = true) (hdg : decode cc pc = .ok (.getfield index, 3)) (kk : W p l e R s m args below meth c H locs cells slots Q (F0 m (pc + 3) ls (.int (tc_gf σ 27) :: rest))) : W p l e R s m args below meth c H locs cells slots Q (F0 m pc ls (.ref (ad 0) :: rest)) := by
  obtain ⟨hx, hb, hml, hown, ⟨hK, hN⟩, hr, hlk⟩ := C
  exact va_get (D := D) (ci := 7) (v := .int (tc_gf σ 27)) (C := RXR) (T := TXR) (N := 47) hx hb (tc_ht hN tc_in_XR) (fun _ h => h) hown hK hP 0 rfl rfl 41 (by decide) hw (fun _ h9 => h9) rfl hdg kk
theorem tc_rg25 (C : tc_C p s m args meth c own cc nL ret D cA) (hP : va_P D vwCl (tc_rW ad cA σ) H) (hw : (Cond.fieldLink own index "TwinConsoleModel" "collided" "Z").before args s = true) (hdg : decode cc pc = .ok (.getfield index, 3)) (kk : W p l e R s m args below meth c H locs cells slots Q (F0 m (pc + 3) ls (.int (tc_gf σ 25) :: rest))) : W p l e R s m args below meth c H locs cells slots Q (F0 m pc ls (.ref (ad 0) :: rest)) := by
  obtain ⟨hx, hb, hml, hown, ⟨hK, hN⟩, hr, hlk⟩ := C
  exact va_get (D := D) (ci := 7) (v := .int (tc_gf σ 25)) (C := RXR) (T := TXR) (N := 47) hx hb (tc_ht hN tc_in_XR) (fun _ h => h) hown hK hP 0 rfl rfl 39 (by decide) hw (fun _ h9 => h9) rfl hdg kk
theorem tc_rg26 (C : tc_C p s m args meth c own cc nL ret D cA) (hP : va_P D vwCl (tc_rW ad cA σ) H) (hw : (Cond.fieldLink own index "TwinConsoleModel" "many" "Z").before args s = true) (hdg : decode cc pc = .ok (.getfield index, 3)) (kk : W p l e R s m args below meth c H locs cells slots Q (F0 m (pc + 3) ls (.int (tc_gf σ 26) :: rest))) : W p l e R s m args below meth c H locs cells slots Q (F0 m pc ls (.ref (ad 0) :: rest)) := by
  obtain ⟨hx, hb, hml, hown, ⟨hK, hN⟩, hr, hlk⟩ := C
  exact va_get (D := D) (ci := 7) (v := .int (tc_gf σ 26)) (C := RXR) (T := TXR) (N := 47) hx hb (tc_ht hN tc_in_XR) (fun _ h => h) hown hK hP 0 rfl rfl 40 (by decide) hw (fun _ h9 => h9) rfl hdg kk
theorem tc_rp25 (C : tc_C p s m args meth c own cc nL ret D cA) (hJ : ∀ σ, va_D A (tc_rW ad cA σ)) (hP : va_P D vwCl (tc_rW ad cA σ) H) (hS : va_S A H0 H locs) (hw : (Cond.fieldLink own index "TwinConsoleModel" "collided" "Z").before args s = true) (hz : narrow .boolean (.int v) = .int v ∧ fits .boolean (.int v) = true) (hdg : decode cc pc = .ok (.putfield index, 3)) (kk : ∀ (H1 : Heap) (locs1 : List Loc), va_P D vwCl (tc_rW ad cA (tc_sf σ 25 v)) H1 → va_S A H0 H1 locs1 → W p l e R s m args below meth c H1 locs1 cells slots Q (F0 m (pc + 3) ls rest)) : W p l e R s m args below meth c H locs cells slots Q (F0 m pc ls (.int v :: .ref (ad 0) :: rest)) := by
  obtain ⟨hx, hb, hml, hown, ⟨hK, hN⟩, hr, hlk⟩ := C
  exact va_put (D := D) (ci := 7) (v := .int v) (ty := .boolean) (C := RXR) (T := TXR) (N := 47) hx hb (tc_ht hN tc_in_XR) (fun _ h => h) tyXR tyXR_ok nmXR hown hK hP (hJ σ) hS 0 rfl rfl 39 (by decide) hw (fun _ h9 => h9) rfl (by decide +kernel) hz.1 hz.2 (Nat.le_of_ble_eq_true rfl) hdg (fun H1 locs1 h1 _ h3 => kk H1 locs1 h1 h3)
theorem tc_rp26 (C : tc_C p s m args meth c own cc nL ret D cA) (hJ : ∀ σ, va_D A (tc_rW ad cA σ)) (hP : va_P D vwCl (tc_rW ad cA σ) H) (hS : va_S A H0 H locs) (hw : (Cond.fieldLink own index "TwinConsoleModel" "many" "Z").before args s = true) (hz : narrow .boolean (.int v) = .int v ∧ fits .boolean (.int v) = true) (hdg : decode cc pc = .ok (.putfield index, 3)) (kk : ∀ (H1 : Heap) (locs1 : List Loc), va_P D vwCl (tc_rW ad cA (tc_sf σ 26 v)) H1 → va_S A H0 H1 locs1 → W p l e R s m args below meth c H1 locs1 cells slots Q (F0 m (pc + 3) ls rest)) : W p l e R s m args below meth c H locs cells slots Q (F0 m pc ls (.int v :: .ref (ad 0) :: rest)) := by
  obtain ⟨hx, hb, hml, hown, ⟨hK, hN⟩, hr, hlk⟩ := C
  exact va_put (D := D) (ci := 7) (v := .int v) (ty := .boolean) (C := RXR) (T := TXR) (N := 47) hx hb (tc_ht hN tc_in_XR) (fun _ h => h) tyXR tyXR_ok nmXR hown hK hP (hJ σ) hS 0 rfl rfl 40 (by decide) hw (fun _ h9 => h9) rfl (by decide +kernel) hz.1 hz.2 (Nat.le_of_ble_eq_true rfl) hdg (fun H1 locs1 h1 _ h3 => kk H1 locs1 h1 h3)
theorem tc_rg28 (C : tc_C p s m args meth c own cc nL ret D cA) (hP : va_P D vwCl (tc_rW ad cA σ) H) (hw : (Cond.fieldLink own index "TwinConsoleModel" "cycle" "I").before args s = true) (hdg : decode cc pc = .ok (.getfield index, 3)) (kk : W p l e R s m args below meth c H locs cells slots Q (F0 m (pc + 3) ls (.int (tc_gf σ 28) :: rest))) : W p l e R s m args below meth c H locs cells slots Q (F0 m pc ls (.ref (ad 0) :: rest)) := by
  obtain ⟨hx, hb, hml, hown, ⟨hK, hN⟩, hr, hlk⟩ := C
  exact va_get (D := D) (ci := 7) (v := .int (tc_gf σ 28)) (C := RXR) (T := TXR) (N := 47) hx hb (tc_ht hN tc_in_XR) (fun _ h => h) hown hK hP 0 rfl rfl 42 (by decide) hw (fun _ h9 => h9) rfl hdg kk
theorem tc_rg32 (C : tc_C p s m args meth c own cc nL ret D cA) (hP : va_P D vwCl (tc_rW ad cA σ) H) (hw : (Cond.fieldLink own index "TwinConsoleModel" "padBits" "I").before args s = true) (hdg : decode cc pc = .ok (.getfield index, 3)) (kk : W p l e R s m args below meth c H locs cells slots Q (F0 m (pc + 3) ls (.int (tc_gf σ 32) :: rest))) : W p l e R s m args below meth c H locs cells slots Q (F0 m pc ls (.ref (ad 0) :: rest)) := by
  obtain ⟨hx, hb, hml, hown, ⟨hK, hN⟩, hr, hlk⟩ := C
  exact va_get (D := D) (ci := 7) (v := .int (tc_gf σ 32)) (C := RXR) (T := TXR) (N := 47) hx hb (tc_ht hN tc_in_XR) (fun _ h => h) hown hK hP 0 rfl rfl 15 (by decide) hw (fun _ h9 => h9) rfl hdg kk
theorem tc_rg33 (C : tc_C p s m args meth c own cc nL ret D cA) (hP : va_P D vwCl (tc_rW ad cA σ) H) (hw : (Cond.fieldLink own index "TwinConsoleModel" "padHigh" "I").before args s = true) (hdg : decode cc pc = .ok (.getfield index, 3)) (kk : W p l e R s m args below meth c H locs cells slots Q (F0 m (pc + 3) ls (.int (tc_gf σ 33) :: rest))) : W p l e R s m args below meth c H locs cells slots Q (F0 m pc ls (.ref (ad 0) :: rest)) := by
  obtain ⟨hx, hb, hml, hown, ⟨hK, hN⟩, hr, hlk⟩ := C
  exact va_get (D := D) (ci := 7) (v := .int (tc_gf σ 33)) (C := RXR) (T := TXR) (N := 47) hx hb (tc_ht hN tc_in_XR) (fun _ h => h) hown hK hP 0 rfl rfl 16 (by decide) hw (fun _ h9 => h9) rfl hdg kk
theorem tc_rg0 (C : tc_C p s m args meth c own cc nL ret D cA) (hP : va_P D vwCl (tc_rW ad cA σ) H) (hw : (Cond.fieldLink own index "TwinConsoleModel" "s" "I").before args s = true) (hdg : decode cc pc = .ok (.getfield index, 3)) (kk : W p l e R s m args below meth c H locs cells slots Q (F0 m (pc + 3) ls (.int (tc_gf σ 0) :: rest))) : W p l e R s m args below meth c H locs cells slots Q (F0 m pc ls (.ref (ad 0) :: rest)) := by
  obtain ⟨hx, hb, hml, hown, ⟨hK, hN⟩, hr, hlk⟩ := C
  exact va_get (D := D) (ci := 7) (v := .int (tc_gf σ 0)) (C := RXR) (T := TXR) (N := 47) hx hb (tc_ht hN tc_in_XR) (fun _ h => h) hown hK hP 0 rfl rfl 3 (by decide) hw (fun _ h9 => h9) rfl hdg kk
theorem tc_rg2 (C : tc_C p s m args meth c own cc nL ret D cA) (hP : va_P D vwCl (tc_rW ad cA σ) H) (hw : (Cond.fieldLink own index "TwinConsoleModel" "mask" "I").before args s = true) (hdg : decode cc pc = .ok (.getfield index, 3)) (kk : W p l e R s m args below meth c H locs cells slots Q (F0 m (pc + 3) ls (.int (tc_gf σ 2) :: rest))) : W p l e R s m args below meth c H locs cells slots Q (F0 m pc ls (.ref (ad 0) :: rest)) := by
  obtain ⟨hx, hb, hml, hown, ⟨hK, hN⟩, hr, hlk⟩ := C
  exact va_get (D := D) (ci := 7) (v := .int (tc_gf σ 2)) (C := RXR) (T := TXR) (N := 47) hx hb (tc_ht hN tc_in_XR) (fun _ h => h) hown hK hP 0 rfl rfl 5 (by decide) hw (fun _ h9 => h9) rfl hdg kk
theorem tc_rg3 (C : tc_C p s m args meth c own cc nL ret D cA) (hP : va_P D vwCl (tc_rW ad cA σ) H) (hw : (Cond.fieldLink own index "TwinConsoleModel" "n" "Z").before args s = true) (hdg : decode cc pc = .ok (.getfield index, 3)) (kk : W p l e R s m args below meth c H locs cells slots Q (F0 m (pc + 3) ls (.int (tc_gf σ 3) :: rest))) : W p l e R s m args below meth c H locs cells slots Q (F0 m pc ls (.ref (ad 0) :: rest)) := by
  obtain ⟨hx, hb, hml, hown, ⟨hK, hN⟩, hr, hlk⟩ := C
  exact va_get (D := D) (ci := 7) (v := .int (tc_gf σ 3)) (C := RXR) (T := TXR) (N := 47) hx hb (tc_ht hN tc_in_XR) (fun _ h => h) hown hK hP 0 rfl rfl 6 (by decide) hw (fun _ h9 => h9) rfl hdg kk
theorem tc_rg4 (C : tc_C p s m args meth c own cc nL ret D cA) (hP : va_P D vwCl (tc_rW ad cA σ) H) (hw : (Cond.fieldLink own index "TwinConsoleModel" "z" "Z").before args s = true) (hdg : decode cc pc = .ok (.getfield index, 3)) (kk : W p l e R s m args below meth c H locs cells slots Q (F0 m (pc + 3) ls (.int (tc_gf σ 4) :: rest))) : W p l e R s m args below meth c H locs cells slots Q (F0 m pc ls (.ref (ad 0) :: rest)) := by
  obtain ⟨hx, hb, hml, hown, ⟨hK, hN⟩, hr, hlk⟩ := C
  exact va_get (D := D) (ci := 7) (v := .int (tc_gf σ 4)) (C := RXR) (T := TXR) (N := 47) hx hb (tc_ht hN tc_in_XR) (fun _ h => h) hown hK hP 0 rfl rfl 7 (by decide) hw (fun _ h9 => h9) rfl hdg kk
theorem tc_rg5 (C : tc_C p s m args meth c own cc nL ret D cA) (hP : va_P D vwCl (tc_rW ad cA σ) H) (hw : (Cond.fieldLink own index "TwinConsoleModel" "v" "Z").before args s = true) (hdg : decode cc pc = .ok (.getfield index, 3)) (kk : W p l e R s m args below meth c H locs cells slots Q (F0 m (pc + 3) ls (.int (tc_gf σ 5) :: rest))) : W p l e R s m args below meth c H locs cells slots Q (F0 m pc ls (.ref (ad 0) :: rest)) := by
  obtain ⟨hx, hb, hml, hown, ⟨hK, hN⟩, hr, hlk⟩ := C
  exact va_get (D := D) (ci := 7) (v := .int (tc_gf σ 5)) (C := RXR) (T := TXR) (N := 47) hx hb (tc_ht hN tc_in_XR) (fun _ h => h) hown hK hP 0 rfl rfl 8 (by decide) hw (fun _ h9 => h9) rfl hdg kk
theorem tc_rg6 (C : tc_C p s m args meth c own cc nL ret D cA) (hP : va_P D vwCl (tc_rW ad cA σ) H) (hw : (Cond.fieldLink own index "TwinConsoleModel" "c" "Z").before args s = true) (hdg : decode cc pc = .ok (.getfield index, 3)) (kk : W p l e R s m args below meth c H locs cells slots Q (F0 m (pc + 3) ls (.int (tc_gf σ 6) :: rest))) : W p l e R s m args below meth c H locs cells slots Q (F0 m pc ls (.ref (ad 0) :: rest)) := by
  obtain ⟨hx, hb, hml, hown, ⟨hK, hN⟩, hr, hlk⟩ := C
  exact va_get (D := D) (ci := 7) (v := .int (tc_gf σ 6)) (C := RXR) (T := TXR) (N := 47) hx hb (tc_ht hN tc_in_XR) (fun _ h => h) hown hK hP 0 rfl rfl 9 (by decide) hw (fun _ h9 => h9) rfl hdg kk
theorem tc_rp30 (C : tc_C p s m args meth c own cc nL ret D cA) (hJ : ∀ σ, va_D A (tc_rW ad cA σ)) (hP : va_P D vwCl (tc_rW ad cA σ) H) (hS : va_S A H0 H locs) (hw : (Cond.fieldLink own index "TwinConsoleModel" "pending4" "Z").before args s = true) (hz : narrow .boolean (.int v) = .int v ∧ fits .boolean (.int v) = true) (hdg : decode cc pc = .ok (.putfield index, 3)) (kk : ∀ (H1 : Heap) (locs1 : List Loc), va_P D vwCl (tc_rW ad cA (tc_sf σ 30 v)) H1 → va_S A H0 H1 locs1 → W p l e R s m args below meth c H1 locs1 cells slots Q (F0 m (pc + 3) ls rest)) : W p l e R s m args below meth c H locs cells slots Q (F0 m pc ls (.int v :: .ref (ad 0) :: rest)) := by
  obtain ⟨hx, hb, hml, hown, ⟨hK, hN⟩, hr, hlk⟩ := C
  exact va_put (D := D) (ci := 7) (v := .int v) (ty := .boolean) (C := RXR) (T := TXR) (N := 47) hx hb (tc_ht hN tc_in_XR) (fun _ h => h) tyXR tyXR_ok nmXR hown hK hP (hJ σ) hS 0 rfl rfl 13 (by decide) hw (fun _ h9 => h9) rfl (by decide +kernel) hz.1 hz.2 (Nat.le_of_ble_eq_true rfl) hdg (fun H1 locs1 h1 _ h3 => kk H1 locs1 h1 h3)
theorem tc_rp31 (C : tc_C p s m args meth c own cc nL ret D cA) (hJ : ∀ σ, va_D A (tc_rW ad cA σ)) (hP : va_P D vwCl (tc_rW ad cA σ) H) (hS : va_S A H0 H locs) (hw : (Cond.fieldLink own index "TwinConsoleModel" "pending6" "Z").before args s = true) (hz : narrow .boolean (.int v) = .int v ∧ fits .boolean (.int v) = true) (hdg : decode cc pc = .ok (.putfield index, 3)) (kk : ∀ (H1 : Heap) (locs1 : List Loc), va_P D vwCl (tc_rW ad cA (tc_sf σ 31 v)) H1 → va_S A H0 H1 locs1 → W p l e R s m args below meth c H1 locs1 cells slots Q (F0 m (pc + 3) ls rest)) : W p l e R s m args below meth c H locs cells slots Q (F0 m pc ls (.int v :: .ref (ad 0) :: rest)) := by
  obtain ⟨hx, hb, hml, hown, ⟨hK, hN⟩, hr, hlk⟩ := C
  exact va_put (D := D) (ci := 7) (v := .int v) (ty := .boolean) (C := RXR) (T := TXR) (N := 47) hx hb (tc_ht hN tc_in_XR) (fun _ h => h) tyXR tyXR_ok nmXR hown hK hP (hJ σ) hS 0 rfl rfl 14 (by decide) hw (fun _ h9 => h9) rfl (by decide +kernel) hz.1 hz.2 (Nat.le_of_ble_eq_true rfl) hdg (fun H1 locs1 h1 _ h3 => kk H1 locs1 h1 h3)
theorem tc_rg24 (C : tc_C p s m args meth c own cc nL ret D cA) (hP : va_P D vwCl (tc_rW ad cA σ) H) (hw : (Cond.fieldLink own index "TwinConsoleModel" "source" "I").before args s = true) (hdg : decode cc pc = .ok (.getfield index, 3)) (kk : W p l e R s m args below meth c H locs cells slots Q (F0 m (pc + 3) ls (.int (tc_gf σ 24) :: rest))) : W p l e R s m args below meth c H locs cells slots Q (F0 m pc ls (.ref (ad 0) :: rest)) := by
  obtain ⟨hx, hb, hml, hown, ⟨hK, hN⟩, hr, hlk⟩ := C
  exact va_get (D := D) (ci := 7) (v := .int (tc_gf σ 24)) (C := RXR) (T := TXR) (N := 47) hx hb (tc_ht hN tc_in_XR) (fun _ h => h) hown hK hP 0 rfl rfl 38 (by decide) hw (fun _ h9 => h9) rfl hdg kk
theorem tc_rg17 (C : tc_C p s m args meth c own cc nL ret D cA) (hP : va_P D vwCl (tc_rW ad cA σ) H) (hw : (Cond.fieldLink own index "TwinConsoleModel" "left" "I").before args s = true) (hdg : decode cc pc = .ok (.getfield index, 3)) (kk : W p l e R s m args below meth c H locs cells slots Q (F0 m (pc + 3) ls (.int (tc_gf σ 17) :: rest))) : W p l e R s m args below meth c H locs cells slots Q (F0 m pc ls (.ref (ad 0) :: rest)) := by
  obtain ⟨hx, hb, hml, hown, ⟨hK, hN⟩, hr, hlk⟩ := C
  exact va_get (D := D) (ci := 7) (v := .int (tc_gf σ 17)) (C := RXR) (T := TXR) (N := 47) hx hb (tc_ht hN tc_in_XR) (fun _ h => h) hown hK hP 0 rfl rfl 27 (by decide) hw (fun _ h9 => h9) rfl hdg kk
theorem tc_rp35 (C : tc_C p s m args meth c own cc nL ret D cA) (hJ : ∀ σ, va_D A (tc_rW ad cA σ)) (hP : va_P D vwCl (tc_rW ad cA σ) H) (hS : va_S A H0 H locs) (hw : (Cond.fieldLink own index "TwinConsoleModel" "cost" "I").before args s = true) (hdg : decode cc pc = .ok (.putfield index, 3)) (kk : ∀ (H1 : Heap) (locs1 : List Loc), va_P D vwCl (tc_rW ad cA (tc_sf σ 35 v)) H1 → va_S A H0 H1 locs1 → W p l e R s m args below meth c H1 locs1 cells slots Q (F0 m (pc + 3) ls rest)) : W p l e R s m args below meth c H locs cells slots Q (F0 m pc ls (.int v :: .ref (ad 0) :: rest)) := by
  obtain ⟨hx, hb, hml, hown, ⟨hK, hN⟩, hr, hlk⟩ := C
  exact va_put (D := D) (ci := 7) (v := .int v) (ty := .int) (C := RXR) (T := TXR) (N := 47) hx hb (tc_ht hN tc_in_XR) (fun _ h => h) tyXR tyXR_ok nmXR hown hK hP (hJ σ) hS 0 rfl rfl 28 (by decide) hw (fun _ h9 => h9) rfl (by decide +kernel) rfl rfl (Nat.le_of_ble_eq_true rfl) hdg (fun H1 locs1 h1 _ h3 => kk H1 locs1 h1 h3)
theorem tc_rg13 (C : tc_C p s m args meth c own cc nL ret D cA) (hP : va_P D vwCl (tc_rW ad cA σ) H) (hw : (Cond.fieldLink own index "TwinConsoleModel" "halted" "Z").before args s = true) (hdg : decode cc pc = .ok (.getfield index, 3)) (kk : W p l e R s m args below meth c H locs cells slots Q (F0 m (pc + 3) ls (.int (tc_gf σ 13) :: rest))) : W p l e R s m args below meth c H locs cells slots Q (F0 m pc ls (.ref (ad 0) :: rest)) := by
  obtain ⟨hx, hb, hml, hown, ⟨hK, hN⟩, hr, hlk⟩ := C
  exact va_get (D := D) (ci := 7) (v := .int (tc_gf σ 13)) (C := RXR) (T := TXR) (N := 47) hx hb (tc_ht hN tc_in_XR) (fun _ h => h) hown hK hP 0 rfl rfl 23 (by decide) hw (fun _ h9 => h9) rfl hdg kk
theorem tc_rg11 (C : tc_C p s m args meth c own cc nL ret D cA) (hP : va_P D vwCl (tc_rW ad cA σ) H) (hw : (Cond.fieldLink own index "TwinConsoleModel" "counter2" "I").before args s = true) (hdg : decode cc pc = .ok (.getfield index, 3)) (kk : W p l e R s m args below meth c H locs cells slots Q (F0 m (pc + 3) ls (.int (tc_gf σ 11) :: rest))) : W p l e R s m args below meth c H locs cells slots Q (F0 m pc ls (.ref (ad 0) :: rest)) := by
  obtain ⟨hx, hb, hml, hown, ⟨hK, hN⟩, hr, hlk⟩ := C
  exact va_get (D := D) (ci := 7) (v := .int (tc_gf σ 11)) (C := RXR) (T := TXR) (N := 47) hx hb (tc_ht hN tc_in_XR) (fun _ h => h) hown hK hP 0 rfl rfl 21 (by decide) hw (fun _ h9 => h9) rfl hdg kk
theorem tc_rg35 (C : tc_C p s m args meth c own cc nL ret D cA) (hP : va_P D vwCl (tc_rW ad cA σ) H) (hw : (Cond.fieldLink own index "TwinConsoleModel" "cost" "I").before args s = true) (hdg : decode cc pc = .ok (.getfield index, 3)) (kk : W p l e R s m args below meth c H locs cells slots Q (F0 m (pc + 3) ls (.int (tc_gf σ 35) :: rest))) : W p l e R s m args below meth c H locs cells slots Q (F0 m pc ls (.ref (ad 0) :: rest)) := by
  obtain ⟨hx, hb, hml, hown, ⟨hK, hN⟩, hr, hlk⟩ := C
  exact va_get (D := D) (ci := 7) (v := .int (tc_gf σ 35)) (C := RXR) (T := TXR) (N := 47) hx hb (tc_ht hN tc_in_XR) (fun _ h => h) hown hK hP 0 rfl rfl 28 (by decide) hw (fun _ h9 => h9) rfl hdg kk
theorem tc_rg12 (C : tc_C p s m args meth c own cc nL ret D cA) (hP : va_P D vwCl (tc_rW ad cA σ) H) (hw : (Cond.fieldLink own index "TwinConsoleModel" "zero" "Z").before args s = true) (hdg : decode cc pc = .ok (.getfield index, 3)) (kk : W p l e R s m args below meth c H locs cells slots Q (F0 m (pc + 3) ls (.int (tc_gf σ 12) :: rest))) : W p l e R s m args below meth c H locs cells slots Q (F0 m pc ls (.ref (ad 0) :: rest)) := by
  obtain ⟨hx, hb, hml, hown, ⟨hK, hN⟩, hr, hlk⟩ := C
  exact va_get (D := D) (ci := 7) (v := .int (tc_gf σ 12)) (C := RXR) (T := TXR) (N := 47) hx hb (tc_ht hN tc_in_XR) (fun _ h => h) hown hK hP 0 rfl rfl 22 (by decide) hw (fun _ h9 => h9) rfl hdg kk
theorem tc_rg8 (C : tc_C p s m args meth c own cc nL ret D cA) (hP : va_P D vwCl (tc_rW ad cA σ) H) (hw : (Cond.fieldLink own index "TwinConsoleModel" "a" "I").before args s = true) (hdg : decode cc pc = .ok (.getfield index, 3)) (kk : W p l e R s m args below meth c H locs cells slots Q (F0 m (pc + 3) ls (.int (tc_gf σ 8) :: rest))) : W p l e R s m args below meth c H locs cells slots Q (F0 m pc ls (.ref (ad 0) :: rest)) := by
  obtain ⟨hx, hb, hml, hown, ⟨hK, hN⟩, hr, hlk⟩ := C
  exact va_get (D := D) (ci := 7) (v := .int (tc_gf σ 8)) (C := RXR) (T := TXR) (N := 47) hx hb (tc_ht hN tc_in_XR) (fun _ h => h) hown hK hP 0 rfl rfl 18 (by decide) hw (fun _ h9 => h9) rfl hdg kk
theorem tc_rg9 (C : tc_C p s m args meth c own cc nL ret D cA) (hP : va_P D vwCl (tc_rW ad cA σ) H) (hw : (Cond.fieldLink own index "TwinConsoleModel" "b" "I").before args s = true) (hdg : decode cc pc = .ok (.getfield index, 3)) (kk : W p l e R s m args below meth c H locs cells slots Q (F0 m (pc + 3) ls (.int (tc_gf σ 9) :: rest))) : W p l e R s m args below meth c H locs cells slots Q (F0 m pc ls (.ref (ad 0) :: rest)) := by
  obtain ⟨hx, hb, hml, hown, ⟨hK, hN⟩, hr, hlk⟩ := C
  exact va_get (D := D) (ci := 7) (v := .int (tc_gf σ 9)) (C := RXR) (T := TXR) (N := 47) hx hb (tc_ht hN tc_in_XR) (fun _ h => h) hown hK hP 0 rfl rfl 19 (by decide) hw (fun _ h9 => h9) rfl hdg kk
theorem tc_rg10 (C : tc_C p s m args meth c own cc nL ret D cA) (hP : va_P D vwCl (tc_rW ad cA σ) H) (hw : (Cond.fieldLink own index "TwinConsoleModel" "h" "I").before args s = true) (hdg : decode cc pc = .ok (.getfield index, 3)) (kk : W p l e R s m args below meth c H locs cells slots Q (F0 m (pc + 3) ls (.int (tc_gf σ 10) :: rest))) : W p l e R s m args below meth c H locs cells slots Q (F0 m pc ls (.ref (ad 0) :: rest)) := by
  obtain ⟨hx, hb, hml, hown, ⟨hK, hN⟩, hr, hlk⟩ := C
  exact va_get (D := D) (ci := 7) (v := .int (tc_gf σ 10)) (C := RXR) (T := TXR) (N := 47) hx hb (tc_ht hN tc_in_XR) (fun _ h => h) hown hK hP 0 rfl rfl 20 (by decide) hw (fun _ h9 => h9) rfl hdg kk
theorem tc_rg34 (C : tc_C p s m args meth c own cc nL ret D cA) (hP : va_P D vwCl (tc_rW ad cA σ) H) (hw : (Cond.fieldLink own index "TwinConsoleModel" "extra" "I").before args s = true) (hdg : decode cc pc = .ok (.getfield index, 3)) (kk : W p l e R s m args below meth c H locs cells slots Q (F0 m (pc + 3) ls (.int (tc_gf σ 34) :: rest))) : W p l e R s m args below meth c H locs cells slots Q (F0 m pc ls (.ref (ad 0) :: rest)) := by
  obtain ⟨hx, hb, hml, hown, ⟨hK, hN⟩, hr, hlk⟩ := C
  exact va_get (D := D) (ci := 7) (v := .int (tc_gf σ 34)) (C := RXR) (T := TXR) (N := 47) hx hb (tc_ht hN tc_in_XR) (fun _ h => h) hown hK hP 0 rfl rfl 12 (by decide) hw (fun _ h9 => h9) rfl hdg kk
theorem tc_rp28 (C : tc_C p s m args meth c own cc nL ret D cA) (hJ : ∀ σ, va_D A (tc_rW ad cA σ)) (hP : va_P D vwCl (tc_rW ad cA σ) H) (hS : va_S A H0 H locs) (hw : (Cond.fieldLink own index "TwinConsoleModel" "cycle" "I").before args s = true) (hdg : decode cc pc = .ok (.putfield index, 3)) (kk : ∀ (H1 : Heap) (locs1 : List Loc), va_P D vwCl (tc_rW ad cA (tc_sf σ 28 v)) H1 → va_S A H0 H1 locs1 → W p l e R s m args below meth c H1 locs1 cells slots Q (F0 m (pc + 3) ls rest)) : W p l e R s m args below meth c H locs cells slots Q (F0 m pc ls (.int v :: .ref (ad 0) :: rest)) := by
  obtain ⟨hx, hb, hml, hown, ⟨hK, hN⟩, hr, hlk⟩ := C
  exact va_put (D := D) (ci := 7) (v := .int v) (ty := .int) (C := RXR) (T := TXR) (N := 47) hx hb (tc_ht hN tc_in_XR) (fun _ h => h) tyXR tyXR_ok nmXR hown hK hP (hJ σ) hS 0 rfl rfl 42 (by decide) hw (fun _ h9 => h9) rfl (by decide +kernel) rfl rfl (Nat.le_of_ble_eq_true rfl) hdg (fun H1 locs1 h1 _ h3 => kk H1 locs1 h1 h3)
theorem tc_rp27 (C : tc_C p s m args meth c own cc nL ret D cA) (hJ : ∀ σ, va_D A (tc_rW ad cA σ)) (hP : va_P D vwCl (tc_rW ad cA σ) H) (hS : va_S A H0 H locs) (hw : (Cond.fieldLink own index "TwinConsoleModel" "line" "I").before args s = true) (hdg : decode cc pc = .ok (.putfield index, 3)) (kk : ∀ (H1 : Heap) (locs1 : List Loc), va_P D vwCl (tc_rW ad cA (tc_sf σ 27 v)) H1 → va_S A H0 H1 locs1 → W p l e R s m args below meth c H1 locs1 cells slots Q (F0 m (pc + 3) ls rest)) : W p l e R s m args below meth c H locs cells slots Q (F0 m pc ls (.int v :: .ref (ad 0) :: rest)) := by
  obtain ⟨hx, hb, hml, hown, ⟨hK, hN⟩, hr, hlk⟩ := C
  exact va_put (D := D) (ci := 7) (v := .int v) (ty := .int) (C := RXR) (T := TXR) (N := 47) hx hb (tc_ht hN tc_in_XR) (fun _ h => h) tyXR tyXR_ok nmXR hown hK hP (hJ σ) hS 0 rfl rfl 41 (by decide) hw (fun _ h9 => h9) rfl (by decide +kernel) rfl rfl (Nat.le_of_ble_eq_true rfl) hdg (fun H1 locs1 h1 _ h3 => kk H1 locs1 h1 h3)
theorem tc_rp29 (C : tc_C p s m args meth c own cc nL ret D cA) (hJ : ∀ σ, va_D A (tc_rW ad cA σ)) (hP : va_P D vwCl (tc_rW ad cA σ) H) (hS : va_S A H0 H locs) (hw : (Cond.fieldLink own index "TwinConsoleModel" "counter" "I").before args s = true) (hdg : decode cc pc = .ok (.putfield index, 3)) (kk : ∀ (H1 : Heap) (locs1 : List Loc), va_P D vwCl (tc_rW ad cA (tc_sf σ 29 v)) H1 → va_S A H0 H1 locs1 → W p l e R s m args below meth c H1 locs1 cells slots Q (F0 m (pc + 3) ls rest)) : W p l e R s m args below meth c H locs cells slots Q (F0 m pc ls (.int v :: .ref (ad 0) :: rest)) := by
  obtain ⟨hx, hb, hml, hown, ⟨hK, hN⟩, hr, hlk⟩ := C
  exact va_put (D := D) (ci := 7) (v := .int v) (ty := .int) (C := RXR) (T := TXR) (N := 47) hx hb (tc_ht hN tc_in_XR) (fun _ h => h) tyXR tyXR_ok nmXR hown hK hP (hJ σ) hS 0 rfl rfl 43 (by decide) hw (fun _ h9 => h9) rfl (by decide +kernel) rfl rfl (Nat.le_of_ble_eq_true rfl) hdg (fun H1 locs1 h1 _ h3 => kk H1 locs1 h1 h3)
theorem tc_rg14 (C : tc_C p s m args meth c own cc nL ret D cA) (hP : va_P D vwCl (tc_rW ad cA σ) H) (hw : (Cond.fieldLink own index "TwinConsoleModel" "lets" "Z").before args s = true) (hdg : decode cc pc = .ok (.getfield index, 3)) (kk : W p l e R s m args below meth c H locs cells slots Q (F0 m (pc + 3) ls (.int (tc_gf σ 14) :: rest))) : W p l e R s m args below meth c H locs cells slots Q (F0 m pc ls (.ref (ad 0) :: rest)) := by
  obtain ⟨hx, hb, hml, hown, ⟨hK, hN⟩, hr, hlk⟩ := C
  exact va_get (D := D) (ci := 7) (v := .int (tc_gf σ 14)) (C := RXR) (T := TXR) (N := 47) hx hb (tc_ht hN tc_in_XR) (fun _ h => h) hown hK hP 0 rfl rfl 24 (by decide) hw (fun _ h9 => h9) rfl hdg kk
theorem tc_rr_XR_pixels (C : tc_C p s m args meth c own cc nL ret D cA) (hP : va_P D vwCl (tc_rW ad cA σ) H) (hw : (Cond.fieldLink own index "TwinConsoleModel" "pixels" "[I").before args s = true) (hdg : decode cc pc = .ok (.getfield index, 3)) (kk : W p l e R s m args below meth c H locs cells slots Q (F0 m (pc + 3) ls (.ref (ad 9) :: rest))) : W p l e R s m args below meth c H locs cells slots Q (F0 m pc ls (.ref (ad 0) :: rest)) := by
  obtain ⟨hx, hb, hml, hown, ⟨hK, hN⟩, hr, hlk⟩ := C
  exact va_get (D := D) (ci := 7) (v := .ref (ad 9)) (C := RXR) (T := TXR) (N := 47) hx hb (tc_ht hN tc_in_XR) (fun _ h => h) hown hK hP 0 rfl rfl 44 (by decide) hw (fun _ h9 => h9) rfl hdg kk
theorem tc_rst9 (C : tc_C p s m args meth c own cc nL ret D cA) (hJ : ∀ σ, va_D A (tc_rW ad cA σ)) (hP : va_P D vwCl (tc_rW ad cA σ) H) (hS : va_S A H0 H locs) (hi : vp_in i 128) (hdg : decode cc pc = .ok (.iastore, 1)) (kk : ∀ (H1 : Heap) (locs1 : List Loc), va_P D vwCl (tc_rW ad cA (tc_sa σ 6 i v)) H1 → va_S A H0 H1 locs1 → W p l e R s m args below meth c H1 locs1 cells slots Q (F0 m (pc + 1) ls rest)) : W p l e R s m args below meth c H locs cells slots Q (F0 m pc ls (.int v :: .int i :: .ref (ad 9) :: rest)) := by
  obtain ⟨hx, hb, hml, hown, ⟨hK, hN⟩, hr, hlk⟩ := C
  exact va_iast hx hb hK hP (hJ σ) hS 9 0 rfl rfl hi hdg (fun H1 locs1 h1 _ h3 => kk H1 locs1 h1 h3)
theorem tc_rg36 (C : tc_C p s m args meth c own cc nL ret D cA) (hP : va_P D vwCl (tc_rW ad cA σ) H) (hw : (Cond.fieldLink own index "TwinConsoleModel" "taken" "I").before args s = true) (hdg : decode cc pc = .ok (.getfield index, 3)) (kk : W p l e R s m args below meth c H locs cells slots Q (F0 m (pc + 3) ls (.int (tc_gf σ 36) :: rest))) : W p l e R s m args below meth c H locs cells slots Q (F0 m pc ls (.ref (ad 0) :: rest)) := by
  obtain ⟨hx, hb, hml, hown, ⟨hK, hN⟩, hr, hlk⟩ := C
  exact va_get (D := D) (ci := 7) (v := .int (tc_gf σ 36)) (C := RXR) (T := TXR) (N := 47) hx hb (tc_ht hN tc_in_XR) (fun _ h => h) hown hK hP 0 rfl rfl 45 (by decide) hw (fun _ h9 => h9) rfl hdg kk
theorem tc_rr_XR_sprite (C : tc_C p s m args meth c own cc nL ret D cA) (hP : va_P D vwCl (tc_rW ad cA σ) H) (hw : (Cond.fieldLink own index "TwinConsoleModel" "sprite" "[I").before args s = true) (hdg : decode cc pc = .ok (.getfield index, 3)) (kk : W p l e R s m args below meth c H locs cells slots Q (F0 m (pc + 3) ls (.ref (ad 10) :: rest))) : W p l e R s m args below meth c H locs cells slots Q (F0 m pc ls (.ref (ad 0) :: rest)) := by
  obtain ⟨hx, hb, hml, hown, ⟨hK, hN⟩, hr, hlk⟩ := C
  exact va_get (D := D) (ci := 7) (v := .ref (ad 10)) (C := RXR) (T := TXR) (N := 47) hx hb (tc_ht hN tc_in_XR) (fun _ h => h) hown hK hP 0 rfl rfl 46 (by decide) hw (fun _ h9 => h9) rfl hdg kk
theorem tc_rld10 (C : tc_C p s m args meth c own cc nL ret D cA) (hP : va_P D vwCl (tc_rW ad cA σ) H) (hi : vp_in i 3) (hdg : decode cc pc = .ok (.iaload, 1)) (kk : W p l e R s m args below meth c H locs cells slots Q (F0 m (pc + 1) ls (.int (tc_ga σ 12 i) :: rest))) : W p l e R s m args below meth c H locs cells slots Q (F0 m pc ls (.int i :: .ref (ad 10) :: rest)) := by
  obtain ⟨hx, hb, hml, hown, ⟨hK, hN⟩, hr, hlk⟩ := C
  exact va_iald hx hb hK hP 10 0 rfl rfl hi hdg kk
theorem tc_rp36 (C : tc_C p s m args meth c own cc nL ret D cA) (hJ : ∀ σ, va_D A (tc_rW ad cA σ)) (hP : va_P D vwCl (tc_rW ad cA σ) H) (hS : va_S A H0 H locs) (hw : (Cond.fieldLink own index "TwinConsoleModel" "taken" "I").before args s = true) (hdg : decode cc pc = .ok (.putfield index, 3)) (kk : ∀ (H1 : Heap) (locs1 : List Loc), va_P D vwCl (tc_rW ad cA (tc_sf σ 36 v)) H1 → va_S A H0 H1 locs1 → W p l e R s m args below meth c H1 locs1 cells slots Q (F0 m (pc + 3) ls rest)) : W p l e R s m args below meth c H locs cells slots Q (F0 m pc ls (.int v :: .ref (ad 0) :: rest)) := by
  obtain ⟨hx, hb, hml, hown, ⟨hK, hN⟩, hr, hlk⟩ := C
  exact va_put (D := D) (ci := 7) (v := .int v) (ty := .int) (C := RXR) (T := TXR) (N := 47) hx hb (tc_ht hN tc_in_XR) (fun _ h => h) tyXR tyXR_ok nmXR hown hK hP (hJ σ) hS 0 rfl rfl 45 (by decide) hw (fun _ h9 => h9) rfl (by decide +kernel) rfl rfl (Nat.le_of_ble_eq_true rfl) hdg (fun H1 locs1 h1 _ h3 => kk H1 locs1 h1 h3)
theorem tc_rst10 (C : tc_C p s m args meth c own cc nL ret D cA) (hJ : ∀ σ, va_D A (tc_rW ad cA σ)) (hP : va_P D vwCl (tc_rW ad cA σ) H) (hS : va_S A H0 H locs) (hi : vp_in i 3) (hdg : decode cc pc = .ok (.iastore, 1)) (kk : ∀ (H1 : Heap) (locs1 : List Loc), va_P D vwCl (tc_rW ad cA (tc_sa σ 12 i v)) H1 → va_S A H0 H1 locs1 → W p l e R s m args below meth c H1 locs1 cells slots Q (F0 m (pc + 1) ls rest)) : W p l e R s m args below meth c H locs cells slots Q (F0 m pc ls (.int v :: .int i :: .ref (ad 10) :: rest)) := by
  obtain ⟨hx, hb, hml, hown, ⟨hK, hN⟩, hr, hlk⟩ := C
  exact va_iast hx hb hK hP (hJ σ) hS 10 0 rfl rfl hi hdg (fun H1 locs1 h1 _ h3 => kk H1 locs1 h1 h3)
theorem tc_rg29 (C : tc_C p s m args meth c own cc nL ret D cA) (hP : va_P D vwCl (tc_rW ad cA σ) H) (hw : (Cond.fieldLink own index "TwinConsoleModel" "counter" "I").before args s = true) (hdg : decode cc pc = .ok (.getfield index, 3)) (kk : W p l e R s m args below meth c H locs cells slots Q (F0 m (pc + 3) ls (.int (tc_gf σ 29) :: rest))) : W p l e R s m args below meth c H locs cells slots Q (F0 m pc ls (.ref (ad 0) :: rest)) := by
  obtain ⟨hx, hb, hml, hown, ⟨hK, hN⟩, hr, hlk⟩ := C
  exact va_get (D := D) (ci := 7) (v := .int (tc_gf σ 29)) (C := RXR) (T := TXR) (N := 47) hx hb (tc_ht hN tc_in_XR) (fun _ h => h) hown hK hP 0 rfl rfl 43 (by decide) hw (fun _ h9 => h9) rfl hdg kk
theorem tc_rld9 (C : tc_C p s m args meth c own cc nL ret D cA) (hP : va_P D vwCl (tc_rW ad cA σ) H) (hi : vp_in i 128) (hdg : decode cc pc = .ok (.iaload, 1)) (kk : W p l e R s m args below meth c H locs cells slots Q (F0 m (pc + 1) ls (.int (tc_ga σ 6 i) :: rest))) : W p l e R s m args below meth c H locs cells slots Q (F0 m pc ls (.int i :: .ref (ad 9) :: rest)) := by
  obtain ⟨hx, hb, hml, hown, ⟨hK, hN⟩, hr, hlk⟩ := C
  exact va_iald hx hb hK hP 9 0 rfl rfl hi hdg kk
theorem tc_cri {q : Int32 × tc_S} (C : tc_C p s m args meth c own cc nL (some .int) D cA) (hP : va_P D vwCl (tc_cW ad cA σ) H) (hS : va_S A s.heap H locs) (h : some (v, σ) = some q) (hdg : decode cc pc = .ok (.ireturn, 1)) : W p l e R s m args below meth c H locs 0 0 (MQ below (tc_Qi D (tc_cW ad cA q.2) A q.1) args s 0 0 A) (F0 m pc ls [.int v]) := by
  obtain ⟨hx, hb, hml, hown, ⟨hK, hN⟩, hr, hlk⟩ := C
  cases h
  exact W.iret hx hb hr (fun t ht _ => ⟨⟨v, (), rfl, rfl, by show va_P _ _ _ t.heap; rw [ht]; exact hP⟩, hS.F ht⟩) hS.2.2 hdg hlk
theorem tc_crz {q : Int32 × tc_S} (C : tc_C p s m args meth c own cc nL (some .boolean) D cA) (hP : va_P D vwCl (tc_cW ad cA σ) H) (hS : va_S A s.heap H locs) (hz : narrow .boolean (.int v) = .int v ∧ fits .boolean (.int v) = true) (h : some (v, σ) = some q) (hdg : decode cc pc = .ok (.ireturn, 1)) : W p l e R s m args below meth c H locs 0 0 (MQ below (tc_Qi D (tc_cW ad cA q.2) A q.1) args s 0 0 A) (F0 m pc ls [.int v]) := by
  obtain ⟨hx, hb, hml, hown, ⟨hK, hN⟩, hr, hlk⟩ := C
  cases h
  exact W.zret (ty := .boolean) hx hb hr hz.1 (fun t ht _ => ⟨⟨v, (), rfl, rfl, by show va_P _ _ _ t.heap; rw [ht]; exact hP⟩, hS.F ht⟩) hS.2.2 hdg hlk
theorem tc_crv {q : tc_S} (C : tc_C p s m args meth c own cc nL none D cA) (hP : va_P D vwCl (tc_cW ad cA σ) H) (hS : va_S A s.heap H locs) (h : some σ = some q) (hdg : decode cc pc = .ok (.return_, 1)) : W p l e R s m args below meth c H locs 0 0 (MQ below (tc_Qv D (tc_cW ad cA q) A) args s 0 0 A) (F0 m pc ls []) := by
  obtain ⟨hx, hb, hml, hown, ⟨hK, hN⟩, hr, hlk⟩ := C
  cases h
  exact W.vret hx hb hr (fun t ht _ => ⟨⟨(), rfl, trivial, by show va_P _ _ _ t.heap; rw [ht]; exact hP⟩, hS.F ht⟩) hS.2.2 hdg hlk
theorem tc_rri {q : Int32 × tc_S} (C : tc_C p s m args meth c own cc nL (some .int) D cA) (hP : va_P D vwCl (tc_rW ad cA σ) H) (hS : va_S A s.heap H locs) (h : some (v, σ) = some q) (hdg : decode cc pc = .ok (.ireturn, 1)) : W p l e R s m args below meth c H locs 0 0 (MQ below (tc_Qi D (tc_rW ad cA q.2) A q.1) args s 0 0 A) (F0 m pc ls [.int v]) := by
  obtain ⟨hx, hb, hml, hown, ⟨hK, hN⟩, hr, hlk⟩ := C
  cases h
  exact W.iret hx hb hr (fun t ht _ => ⟨⟨v, (), rfl, rfl, by show va_P _ _ _ t.heap; rw [ht]; exact hP⟩, hS.F ht⟩) hS.2.2 hdg hlk
theorem tc_rrz {q : Int32 × tc_S} (C : tc_C p s m args meth c own cc nL (some .boolean) D cA) (hP : va_P D vwCl (tc_rW ad cA σ) H) (hS : va_S A s.heap H locs) (hz : narrow .boolean (.int v) = .int v ∧ fits .boolean (.int v) = true) (h : some (v, σ) = some q) (hdg : decode cc pc = .ok (.ireturn, 1)) : W p l e R s m args below meth c H locs 0 0 (MQ below (tc_Qi D (tc_rW ad cA q.2) A q.1) args s 0 0 A) (F0 m pc ls [.int v]) := by
  obtain ⟨hx, hb, hml, hown, ⟨hK, hN⟩, hr, hlk⟩ := C
  cases h
  exact W.zret (ty := .boolean) hx hb hr hz.1 (fun t ht _ => ⟨⟨v, (), rfl, rfl, by show va_P _ _ _ t.heap; rw [ht]; exact hP⟩, hS.F ht⟩) hS.2.2 hdg hlk
theorem tc_rrv {q : tc_S} (C : tc_C p s m args meth c own cc nL none D cA) (hP : va_P D vwCl (tc_rW ad cA σ) H) (hS : va_S A s.heap H locs) (h : some σ = some q) (hdg : decode cc pc = .ok (.return_, 1)) : W p l e R s m args below meth c H locs 0 0 (MQ below (tc_Qv D (tc_rW ad cA q) A) args s 0 0 A) (F0 m pc ls []) := by
  obtain ⟨hx, hb, hml, hown, ⟨hK, hN⟩, hr, hlk⟩ := C
  cases h
  exact W.vret hx hb hr (fun t ht _ => ⟨⟨(), rfl, trivial, by show va_P _ _ _ t.heap; rw [ht]; exact hP⟩, hS.F ht⟩) hS.2.2 hdg hlk
end TCW
end
