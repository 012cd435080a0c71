section
-- ===== PART A: goes FIRST, ahead of the names: the tables' words, and 'selects' of the private methods out of them =====
/-- a private method of a class that the tables say can be made, by its rows of tables_1 -/
def lw_okq (q : MethodName × Nat) : Prop := (q.1.cls ≠ "java/lang/invoke/MethodHandle" ∧ q.1.cls ≠ "java/lang/invoke/VarHandle") ∧ Cond.instantiable q.1.cls q.2 ∈ tables_1 ∧ Cond.privateMethod q.1 ∈ tables_1 ∧ Cond.instanceMethod q.1 ∈ tables_1
theorem lw_p0 : lw_okq (⟨"KnivesGround$Text", "clear", "(I)V"⟩, 6) := ⟨⟨by decide +kernel, by decide +kernel⟩, List.mem_of_getElem? (i := 28) (by decide +kernel), List.mem_of_getElem? (i := 138) (by decide +kernel), List.mem_of_getElem? (i := 139) (by decide +kernel)⟩
theorem lw_p1 : lw_okq (⟨"KnivesGround", "refuse", "(I)I"⟩, 8) := ⟨⟨by decide +kernel, by decide +kernel⟩, List.mem_of_getElem? (i := 14) (by decide +kernel), List.mem_of_getElem? (i := 285) (by decide +kernel), List.mem_of_getElem? (i := 286) (by decide +kernel)⟩
theorem lw_p2 : lw_okq (⟨"KnivesGround$Ground", "setGrinder", "(II)I"⟩, 9) := ⟨⟨by decide +kernel, by decide +kernel⟩, List.mem_of_getElem? (i := 55) (by decide +kernel), List.mem_of_getElem? (i := 290) (by decide +kernel), List.mem_of_getElem? (i := 291) (by decide +kernel)⟩
theorem lw_p3 : lw_okq (⟨"KnivesGround$Ground", "setInArea", "(I)I"⟩, 9) := ⟨⟨by decide +kernel, by decide +kernel⟩, List.mem_of_getElem? (i := 55) (by decide +kernel), List.mem_of_getElem? (i := 298) (by decide +kernel), List.mem_of_getElem? (i := 299) (by decide +kernel)⟩
theorem lw_p4 : lw_okq (⟨"KnivesGround$One", "turnInto", "(I)V"⟩, 7) := ⟨⟨by decide +kernel, by decide +kernel⟩, List.mem_of_getElem? (i := 62) (by decide +kernel), List.mem_of_getElem? (i := 310) (by decide +kernel), List.mem_of_getElem? (i := 311) (by decide +kernel)⟩
theorem lw_p5 : lw_okq (⟨"KnivesGround", "isQuarrel", "(I)Z"⟩, 8) := ⟨⟨by decide +kernel, by decide +kernel⟩, List.mem_of_getElem? (i := 14) (by decide +kernel), List.mem_of_getElem? (i := 318) (by decide +kernel), List.mem_of_getElem? (i := 319) (by decide +kernel)⟩
theorem lw_p6 : lw_okq (⟨"KnivesGround$Ground", "gainsOf", "(LKnivesGround$One;)I"⟩, 9) := ⟨⟨by decide +kernel, by decide +kernel⟩, List.mem_of_getElem? (i := 55) (by decide +kernel), List.mem_of_getElem? (i := 322) (by decide +kernel), List.mem_of_getElem? (i := 323) (by decide +kernel)⟩
theorem lw_p7 : lw_okq (⟨"KnivesGround$Text", "gives", "(III)I"⟩, 6) := ⟨⟨by decide +kernel, by decide +kernel⟩, List.mem_of_getElem? (i := 28) (by decide +kernel), List.mem_of_getElem? (i := 326) (by decide +kernel), List.mem_of_getElem? (i := 327) (by decide +kernel)⟩
theorem lw_p8 : lw_okq (⟨"KnivesGround$Text", "workedOut", "(III)I"⟩, 6) := ⟨⟨by decide +kernel, by decide +kernel⟩, List.mem_of_getElem? (i := 28) (by decide +kernel), List.mem_of_getElem? (i := 330) (by decide +kernel), List.mem_of_getElem? (i := 331) (by decide +kernel)⟩
theorem lw_p9 : lw_okq (⟨"KnivesGround$One", "gains", "(II)I"⟩, 7) := ⟨⟨by decide +kernel, by decide +kernel⟩, List.mem_of_getElem? (i := 62) (by decide +kernel), List.mem_of_getElem? (i := 343) (by decide +kernel), List.mem_of_getElem? (i := 344) (by decide +kernel)⟩
theorem lw_p10 : lw_okq (⟨"KnivesGround$One", "needs", "()I"⟩, 7) := ⟨⟨by decide +kernel, by decide +kernel⟩, List.mem_of_getElem? (i := 62) (by decide +kernel), List.mem_of_getElem? (i := 348) (by decide +kernel), List.mem_of_getElem? (i := 349) (by decide +kernel)⟩
theorem lw_p11 : lw_okq (⟨"KnivesGround$One", "dulls", "()I"⟩, 7) := ⟨⟨by decide +kernel, by decide +kernel⟩, List.mem_of_getElem? (i := 62) (by decide +kernel), List.mem_of_getElem? (i := 352) (by decide +kernel), List.mem_of_getElem? (i := 353) (by decide +kernel)⟩
theorem lw_p12 : lw_okq (⟨"KnivesGround$One", "changeTo", "(II)I"⟩, 7) := ⟨⟨by decide +kernel, by decide +kernel⟩, List.mem_of_getElem? (i := 62) (by decide +kernel), List.mem_of_getElem? (i := 363) (by decide +kernel), List.mem_of_getElem? (i := 364) (by decide +kernel)⟩
theorem lw_p13 : lw_okq (⟨"KnivesGround$One", "isOfKind", "(I)Z"⟩, 7) := ⟨⟨by decide +kernel, by decide +kernel⟩, List.mem_of_getElem? (i := 62) (by decide +kernel), List.mem_of_getElem? (i := 375) (by decide +kernel), List.mem_of_getElem? (i := 376) (by decide +kernel)⟩
theorem lw_p14 : lw_okq (⟨"KnivesGround$Reader", "read", "([III)I"⟩, 5) := ⟨⟨by decide +kernel, by decide +kernel⟩, List.mem_of_getElem? (i := 177) (by decide +kernel), List.mem_of_getElem? (i := 390) (by decide +kernel), List.mem_of_getElem? (i := 391) (by decide +kernel)⟩
theorem lw_p15 : lw_okq (⟨"KnivesGround$Reader", "readLevel", "(II)I"⟩, 5) := ⟨⟨by decide +kernel, by decide +kernel⟩, List.mem_of_getElem? (i := 177) (by decide +kernel), List.mem_of_getElem? (i := 399) (by decide +kernel), List.mem_of_getElem? (i := 400) (by decide +kernel)⟩
def lw_privs_1 : List (MethodName × Nat) := [(⟨"KnivesGround$Text", "clear", "(I)V"⟩, 6), (⟨"KnivesGround", "refuse", "(I)I"⟩, 8), (⟨"KnivesGround$Ground", "setGrinder", "(II)I"⟩, 9), (⟨"KnivesGround$Ground", "setInArea", "(I)I"⟩, 9), (⟨"KnivesGround$One", "turnInto", "(I)V"⟩, 7), (⟨"KnivesGround", "isQuarrel", "(I)Z"⟩, 8), (⟨"KnivesGround$Ground", "gainsOf", "(LKnivesGround$One;)I"⟩, 9), (⟨"KnivesGround$Text", "gives", "(III)I"⟩, 6), (⟨"KnivesGround$Text", "workedOut", "(III)I"⟩, 6), (⟨"KnivesGround$One", "gains", "(II)I"⟩, 7), (⟨"KnivesGround$One", "needs", "()I"⟩, 7), (⟨"KnivesGround$One", "dulls", "()I"⟩, 7), (⟨"KnivesGround$One", "changeTo", "(II)I"⟩, 7), (⟨"KnivesGround$One", "isOfKind", "(I)Z"⟩, 7), (⟨"KnivesGround$Reader", "read", "([III)I"⟩, 5), (⟨"KnivesGround$Reader", "readLevel", "(II)I"⟩, 5)]
theorem lw_r1 : ∀ q ∈ lw_privs_1, lw_okq q := List.forall_mem_cons.mpr ⟨lw_p0, List.forall_mem_cons.mpr ⟨lw_p1, List.forall_mem_cons.mpr ⟨lw_p2, List.forall_mem_cons.mpr ⟨lw_p3, List.forall_mem_cons.mpr ⟨lw_p4, List.forall_mem_cons.mpr ⟨lw_p5, List.forall_mem_cons.mpr ⟨lw_p6, List.forall_mem_cons.mpr ⟨lw_p7, List.forall_mem_cons.mpr ⟨lw_p8, List.forall_mem_cons.mpr ⟨lw_p9, List.forall_mem_cons.mpr ⟨lw_p10, List.forall_mem_cons.mpr ⟨lw_p11, List.forall_mem_cons.mpr ⟨lw_p12, List.forall_mem_cons.mpr ⟨lw_p13, List.forall_mem_cons.mpr ⟨lw_p14, List.forall_mem_cons.mpr ⟨lw_p15, fun _ h => absurd h List.not_mem_nil⟩⟩⟩⟩⟩⟩⟩⟩⟩⟩⟩⟩⟩⟩⟩⟩
theorem lw_p16 : lw_okq (⟨"KnivesGround$Reader", "readInnermost", "(I)I"⟩, 5) := ⟨⟨by decide +kernel, by decide +kernel⟩, List.mem_of_getElem? (i := 177) (by decide +kernel), List.mem_of_getElem? (i := 403) (by decide +kernel), List.mem_of_getElem? (i := 404) (by decide +kernel)⟩
theorem lw_p17 : lw_okq (⟨"KnivesGround$Reader", "next", "()I"⟩, 5) := ⟨⟨by decide +kernel, by decide +kernel⟩, List.mem_of_getElem? (i := 177) (by decide +kernel), List.mem_of_getElem? (i := 407) (by decide +kernel), List.mem_of_getElem? (i := 408) (by decide +kernel)⟩
theorem lw_p18 : lw_okq (⟨"KnivesGround$Reader", "readNumber", "()I"⟩, 5) := ⟨⟨by decide +kernel, by decide +kernel⟩, List.mem_of_getElem? (i := 177) (by decide +kernel), List.mem_of_getElem? (i := 415) (by decide +kernel), List.mem_of_getElem? (i := 416) (by decide +kernel)⟩
theorem lw_p19 : lw_okq (⟨"KnivesGround$Text", "add", "(III)I"⟩, 6) := ⟨⟨by decide +kernel, by decide +kernel⟩, List.mem_of_getElem? (i := 28) (by decide +kernel), List.mem_of_getElem? (i := 419) (by decide +kernel), List.mem_of_getElem? (i := 420) (by decide +kernel)⟩
theorem lw_p20 : lw_okq (⟨"KnivesGround$Reader", "nameOf", "(I)I"⟩, 5) := ⟨⟨by decide +kernel, by decide +kernel⟩, List.mem_of_getElem? (i := 177) (by decide +kernel), List.mem_of_getElem? (i := 423) (by decide +kernel), List.mem_of_getElem? (i := 424) (by decide +kernel)⟩
theorem lw_p21 : lw_okq (⟨"KnivesGround$Reader", "readNot", "(I)I"⟩, 5) := ⟨⟨by decide +kernel, by decide +kernel⟩, List.mem_of_getElem? (i := 177) (by decide +kernel), List.mem_of_getElem? (i := 427) (by decide +kernel), List.mem_of_getElem? (i := 428) (by decide +kernel)⟩
theorem lw_p22 : lw_okq (⟨"KnivesGround$Reader", "readBrackets", "(I)I"⟩, 5) := ⟨⟨by decide +kernel, by decide +kernel⟩, List.mem_of_getElem? (i := 177) (by decide +kernel), List.mem_of_getElem? (i := 431) (by decide +kernel), List.mem_of_getElem? (i := 432) (by decide +kernel)⟩
theorem lw_p23 : lw_okq (⟨"KnivesGround$Reader", "stop", "()I"⟩, 5) := ⟨⟨by decide +kernel, by decide +kernel⟩, List.mem_of_getElem? (i := 177) (by decide +kernel), List.mem_of_getElem? (i := 435) (by decide +kernel), List.mem_of_getElem? (i := 436) (by decide +kernel)⟩
theorem lw_p24 : lw_okq (⟨"KnivesGround$Whole", "textOf", "(I)LKnivesGround$Text;"⟩, 8) := ⟨⟨by decide +kernel, by decide +kernel⟩, List.mem_of_getElem? (i := 22) (by decide +kernel), List.mem_of_getElem? (i := 442) (by decide +kernel), List.mem_of_getElem? (i := 443) (by decide +kernel)⟩
theorem lw_p25 : lw_okq (⟨"KnivesGround$Text", "copyFrom", "(LKnivesGround$Text;)V"⟩, 6) := ⟨⟨by decide +kernel, by decide +kernel⟩, List.mem_of_getElem? (i := 28) (by decide +kernel), List.mem_of_getElem? (i := 446) (by decide +kernel), List.mem_of_getElem? (i := 447) (by decide +kernel)⟩
theorem lw_p26 : lw_okq (⟨"KnivesGround$Ground", "passDay", "(Z)V"⟩, 9) := ⟨⟨by decide +kernel, by decide +kernel⟩, List.mem_of_getElem? (i := 55) (by decide +kernel), List.mem_of_getElem? (i := 461) (by decide +kernel), List.mem_of_getElem? (i := 462) (by decide +kernel)⟩
theorem lw_p27 : lw_okq (⟨"KnivesGround$Ground", "grindArea", "()V"⟩, 9) := ⟨⟨by decide +kernel, by decide +kernel⟩, List.mem_of_getElem? (i := 55) (by decide +kernel), List.mem_of_getElem? (i := 465) (by decide +kernel), List.mem_of_getElem? (i := 466) (by decide +kernel)⟩
theorem lw_p28 : lw_okq (⟨"KnivesGround$Ground", "restDay", "(Z)V"⟩, 9) := ⟨⟨by decide +kernel, by decide +kernel⟩, List.mem_of_getElem? (i := 55) (by decide +kernel), List.mem_of_getElem? (i := 472) (by decide +kernel), List.mem_of_getElem? (i := 473) (by decide +kernel)⟩
theorem lw_p29 : lw_okq (⟨"KnivesGround$Ground", "endOrDull", "(Z)V"⟩, 9) := ⟨⟨by decide +kernel, by decide +kernel⟩, List.mem_of_getElem? (i := 55) (by decide +kernel), List.mem_of_getElem? (i := 476) (by decide +kernel), List.mem_of_getElem? (i := 477) (by decide +kernel)⟩
theorem lw_p30 : lw_okq (⟨"KnivesGround$Ground", "isFree", "(LKnivesGround$One;)Z"⟩, 9) := ⟨⟨by decide +kernel, by decide +kernel⟩, List.mem_of_getElem? (i := 55) (by decide +kernel), List.mem_of_getElem? (i := 481) (by decide +kernel), List.mem_of_getElem? (i := 482) (by decide +kernel)⟩
theorem lw_p31 : lw_okq (⟨"KnivesGround$Ground", "endedMany", "()I"⟩, 9) := ⟨⟨by decide +kernel, by decide +kernel⟩, List.mem_of_getElem? (i := 55) (by decide +kernel), List.mem_of_getElem? (i := 488) (by decide +kernel), List.mem_of_getElem? (i := 489) (by decide +kernel)⟩
def lw_privs_2 : List (MethodName × Nat) := [(⟨"KnivesGround$Reader", "readInnermost", "(I)I"⟩, 5), (⟨"KnivesGround$Reader", "next", "()I"⟩, 5), (⟨"KnivesGround$Reader", "readNumber", "()I"⟩, 5), (⟨"KnivesGround$Text", "add", "(III)I"⟩, 6), (⟨"KnivesGround$Reader", "nameOf", "(I)I"⟩, 5), (⟨"KnivesGround$Reader", "readNot", "(I)I"⟩, 5), (⟨"KnivesGround$Reader", "readBrackets", "(I)I"⟩, 5), (⟨"KnivesGround$Reader", "stop", "()I"⟩, 5), (⟨"KnivesGround$Whole", "textOf", "(I)LKnivesGround$Text;"⟩, 8), (⟨"KnivesGround$Text", "copyFrom", "(LKnivesGround$Text;)V"⟩, 6), (⟨"KnivesGround$Ground", "passDay", "(Z)V"⟩, 9), (⟨"KnivesGround$Ground", "grindArea", "()V"⟩, 9), (⟨"KnivesGround$Ground", "restDay", "(Z)V"⟩, 9), (⟨"KnivesGround$Ground", "endOrDull", "(Z)V"⟩, 9), (⟨"KnivesGround$Ground", "isFree", "(LKnivesGround$One;)Z"⟩, 9), (⟨"KnivesGround$Ground", "endedMany", "()I"⟩, 9)]
theorem lw_r2 : ∀ q ∈ lw_privs_2, lw_okq q := List.forall_mem_cons.mpr ⟨lw_p16, List.forall_mem_cons.mpr ⟨lw_p17, List.forall_mem_cons.mpr ⟨lw_p18, List.forall_mem_cons.mpr ⟨lw_p19, List.forall_mem_cons.mpr ⟨lw_p20, List.forall_mem_cons.mpr ⟨lw_p21, List.forall_mem_cons.mpr ⟨lw_p22, List.forall_mem_cons.mpr ⟨lw_p23, List.forall_mem_cons.mpr ⟨lw_p24, List.forall_mem_cons.mpr ⟨lw_p25, List.forall_mem_cons.mpr ⟨lw_p26, List.forall_mem_cons.mpr ⟨lw_p27, List.forall_mem_cons.mpr ⟨lw_p28, List.forall_mem_cons.mpr ⟨lw_p29, List.forall_mem_cons.mpr ⟨lw_p30, List.forall_mem_cons.mpr ⟨lw_p31, fun _ h => absurd h List.not_mem_nil⟩⟩⟩⟩⟩⟩⟩⟩⟩⟩⟩⟩⟩⟩⟩⟩
theorem lw_p32 : lw_okq (⟨"KnivesGround$Ground", "setEnded", "()I"⟩, 9) := ⟨⟨by decide +kernel, by decide +kernel⟩, List.mem_of_getElem? (i := 55) (by decide +kernel), List.mem_of_getElem? (i := 492) (by decide +kernel), List.mem_of_getElem? (i := 493) (by decide +kernel)⟩
theorem lw_p33 : lw_okq (⟨"KnivesGround$Whole", "draw", "()I"⟩, 8) := ⟨⟨by decide +kernel, by decide +kernel⟩, List.mem_of_getElem? (i := 22) (by decide +kernel), List.mem_of_getElem? (i := 506) (by decide +kernel), List.mem_of_getElem? (i := 507) (by decide +kernel)⟩
theorem lw_p34 : lw_okq (⟨"KnivesGround", "think", "()V"⟩, 8) := ⟨⟨by decide +kernel, by decide +kernel⟩, List.mem_of_getElem? (i := 14) (by decide +kernel), List.mem_of_getElem? (i := 515) (by decide +kernel), List.mem_of_getElem? (i := 516) (by decide +kernel)⟩
theorem lw_p35 : lw_okq (⟨"KnivesGround$Ground", "copyFrom", "(LKnivesGround$Ground;)V"⟩, 9) := ⟨⟨by decide +kernel, by decide +kernel⟩, List.mem_of_getElem? (i := 55) (by decide +kernel), List.mem_of_getElem? (i := 519) (by decide +kernel), List.mem_of_getElem? (i := 520) (by decide +kernel)⟩
theorem lw_p36 : lw_okq (⟨"KnivesGround$One", "copyFrom", "(LKnivesGround$One;)V"⟩, 7) := ⟨⟨by decide +kernel, by decide +kernel⟩, List.mem_of_getElem? (i := 62) (by decide +kernel), List.mem_of_getElem? (i := 523) (by decide +kernel), List.mem_of_getElem? (i := 524) (by decide +kernel)⟩
theorem lw_p37 : lw_okq (⟨"KnivesGround", "thinkDays", "(I)V"⟩, 8) := ⟨⟨by decide +kernel, by decide +kernel⟩, List.mem_of_getElem? (i := 14) (by decide +kernel), List.mem_of_getElem? (i := 527) (by decide +kernel), List.mem_of_getElem? (i := 528) (by decide +kernel)⟩
theorem lw_p38 : lw_okq (⟨"KnivesGround$Ground", "setItHangsOn", "(I)I"⟩, 9) := ⟨⟨by decide +kernel, by decide +kernel⟩, List.mem_of_getElem? (i := 55) (by decide +kernel), List.mem_of_getElem? (i := 553) (by decide +kernel), List.mem_of_getElem? (i := 554) (by decide +kernel)⟩
theorem lw_p39 : lw_okq (⟨"KnivesGround$Ground", "sharpen", "(I)V"⟩, 9) := ⟨⟨by decide +kernel, by decide +kernel⟩, List.mem_of_getElem? (i := 55) (by decide +kernel), List.mem_of_getElem? (i := 558) (by decide +kernel), List.mem_of_getElem? (i := 559) (by decide +kernel)⟩
theorem lw_p40 : lw_okq (⟨"KnivesGround", "endsInThought", "(II)Z"⟩, 8) := ⟨⟨by decide +kernel, by decide +kernel⟩, List.mem_of_getElem? (i := 14) (by decide +kernel), List.mem_of_getElem? (i := 562) (by decide +kernel), List.mem_of_getElem? (i := 563) (by decide +kernel)⟩
theorem lw_p41 : lw_okq (⟨"KnivesGround", "thinkDaysWithHarm", "(I)V"⟩, 8) := ⟨⟨by decide +kernel, by decide +kernel⟩, List.mem_of_getElem? (i := 14) (by decide +kernel), List.mem_of_getElem? (i := 570) (by decide +kernel), List.mem_of_getElem? (i := 571) (by decide +kernel)⟩
theorem lw_p42 : lw_okq (⟨"KnivesGround$Sheet", "isMissing", "()Z"⟩, 3) := ⟨⟨by decide +kernel, by decide +kernel⟩, List.mem_of_getElem? (i := 227) (by decide +kernel), List.mem_of_getElem? (i := 581) (by decide +kernel), List.mem_of_getElem? (i := 582) (by decide +kernel)⟩
theorem lw_p43 : lw_okq (⟨"KnivesGround$Ground", "hasEdges", "(LKnivesGround$Sheet;)Z"⟩, 9) := ⟨⟨by decide +kernel, by decide +kernel⟩, List.mem_of_getElem? (i := 55) (by decide +kernel), List.mem_of_getElem? (i := 585) (by decide +kernel), List.mem_of_getElem? (i := 586) (by decide +kernel)⟩
theorem lw_p44 : lw_okq (⟨"KnivesGround$Ground", "setHangingOn", "(I)I"⟩, 9) := ⟨⟨by decide +kernel, by decide +kernel⟩, List.mem_of_getElem? (i := 55) (by decide +kernel), List.mem_of_getElem? (i := 609) (by decide +kernel), List.mem_of_getElem? (i := 610) (by decide +kernel)⟩
theorem lw_p45 : lw_okq (⟨"KnivesGround$Ground", "setFree", "()I"⟩, 9) := ⟨⟨by decide +kernel, by decide +kernel⟩, List.mem_of_getElem? (i := 55) (by decide +kernel), List.mem_of_getElem? (i := 621) (by decide +kernel), List.mem_of_getElem? (i := 622) (by decide +kernel)⟩
theorem lw_p46 : lw_okq (⟨"KnivesGround$Voices", "beginWith", "(III)V"⟩, 5) := ⟨⟨by decide +kernel, by decide +kernel⟩, List.mem_of_getElem? (i := 202) (by decide +kernel), List.mem_of_getElem? (i := 640) (by decide +kernel), List.mem_of_getElem? (i := 641) (by decide +kernel)⟩
theorem lw_p47 : lw_okq (⟨"KnivesGround$Voices", "say", "(II)I"⟩, 5) := ⟨⟨by decide +kernel, by decide +kernel⟩, List.mem_of_getElem? (i := 202) (by decide +kernel), List.mem_of_getElem? (i := 644) (by decide +kernel), List.mem_of_getElem? (i := 645) (by decide +kernel)⟩
def lw_privs_3 : List (MethodName × Nat) := [(⟨"KnivesGround$Ground", "setEnded", "()I"⟩, 9), (⟨"KnivesGround$Whole", "draw", "()I"⟩, 8), (⟨"KnivesGround", "think", "()V"⟩, 8), (⟨"KnivesGround$Ground", "copyFrom", "(LKnivesGround$Ground;)V"⟩, 9), (⟨"KnivesGround$One", "copyFrom", "(LKnivesGround$One;)V"⟩, 7), (⟨"KnivesGround", "thinkDays", "(I)V"⟩, 8), (⟨"KnivesGround$Ground", "setItHangsOn", "(I)I"⟩, 9), (⟨"KnivesGround$Ground", "sharpen", "(I)V"⟩, 9), (⟨"KnivesGround", "endsInThought", "(II)Z"⟩, 8), (⟨"KnivesGround", "thinkDaysWithHarm", "(I)V"⟩, 8), (⟨"KnivesGround$Sheet", "isMissing", "()Z"⟩, 3), (⟨"KnivesGround$Ground", "hasEdges", "(LKnivesGround$Sheet;)Z"⟩, 9), (⟨"KnivesGround$Ground", "setHangingOn", "(I)I"⟩, 9), (⟨"KnivesGround$Ground", "setFree", "()I"⟩, 9), (⟨"KnivesGround$Voices", "beginWith", "(III)V"⟩, 5), (⟨"KnivesGround$Voices", "say", "(II)I"⟩, 5)]
theorem lw_r3 : ∀ q ∈ lw_privs_3, lw_okq q := List.forall_mem_cons.mpr ⟨lw_p32, List.forall_mem_cons.mpr ⟨lw_p33, List.forall_mem_cons.mpr ⟨lw_p34, List.forall_mem_cons.mpr ⟨lw_p35, List.forall_mem_cons.mpr ⟨lw_p36, List.forall_mem_cons.mpr ⟨lw_p37, List.forall_mem_cons.mpr ⟨lw_p38, List.forall_mem_cons.mpr ⟨lw_p39, List.forall_mem_cons.mpr ⟨lw_p40, List.forall_mem_cons.mpr ⟨lw_p41, List.forall_mem_cons.mpr ⟨lw_p42, List.forall_mem_cons.mpr ⟨lw_p43, List.forall_mem_cons.mpr ⟨lw_p44, List.forall_mem_cons.mpr ⟨lw_p45, List.forall_mem_cons.mpr ⟨lw_p46, List.forall_mem_cons.mpr ⟨lw_p47, fun _ h => absurd h List.not_mem_nil⟩⟩⟩⟩⟩⟩⟩⟩⟩⟩⟩⟩⟩⟩⟩⟩
theorem lw_p48 : lw_okq (⟨"KnivesGround$Voices", "sayGrinds", "(II)I"⟩, 5) := ⟨⟨by decide +kernel, by decide +kernel⟩, List.mem_of_getElem? (i := 202) (by decide +kernel), List.mem_of_getElem? (i := 648) (by decide +kernel), List.mem_of_getElem? (i := 649) (by decide +kernel)⟩
theorem lw_p49 : lw_okq (⟨"KnivesGround$Voices", "begin", "(I)V"⟩, 5) := ⟨⟨by decide +kernel, by decide +kernel⟩, List.mem_of_getElem? (i := 202) (by decide +kernel), List.mem_of_getElem? (i := 652) (by decide +kernel), List.mem_of_getElem? (i := 653) (by decide +kernel)⟩
theorem lw_p50 : lw_okq (⟨"KnivesGround$Voices", "sayCuts", "(II)I"⟩, 5) := ⟨⟨by decide +kernel, by decide +kernel⟩, List.mem_of_getElem? (i := 202) (by decide +kernel), List.mem_of_getElem? (i := 656) (by decide +kernel), List.mem_of_getElem? (i := 657) (by decide +kernel)⟩
theorem lw_p51 : lw_okq (⟨"KnivesGround$Voices", "saySparks", "(II)I"⟩, 5) := ⟨⟨by decide +kernel, by decide +kernel⟩, List.mem_of_getElem? (i := 202) (by decide +kernel), List.mem_of_getElem? (i := 660) (by decide +kernel), List.mem_of_getElem? (i := 661) (by decide +kernel)⟩
theorem lw_p52 : lw_okq (⟨"KnivesGround$Voices", "sayTells", "(II)I"⟩, 5) := ⟨⟨by decide +kernel, by decide +kernel⟩, List.mem_of_getElem? (i := 202) (by decide +kernel), List.mem_of_getElem? (i := 664) (by decide +kernel), List.mem_of_getElem? (i := 665) (by decide +kernel)⟩
theorem lw_p53 : lw_okq (⟨"KnivesGround$Sheet", "lay", "(II)V"⟩, 3) := ⟨⟨by decide +kernel, by decide +kernel⟩, List.mem_of_getElem? (i := 227) (by decide +kernel), List.mem_of_getElem? (i := 676) (by decide +kernel), List.mem_of_getElem? (i := 677) (by decide +kernel)⟩
theorem lw_p54 : lw_okq (⟨"KnivesGround$Sheet", "write", "(II)V"⟩, 3) := ⟨⟨by decide +kernel, by decide +kernel⟩, List.mem_of_getElem? (i := 227) (by decide +kernel), List.mem_of_getElem? (i := 684) (by decide +kernel), List.mem_of_getElem? (i := 685) (by decide +kernel)⟩
theorem lw_p55 : lw_okq (⟨"KnivesGround$Sheet", "hasNumbers", "(II)Z"⟩, 3) := ⟨⟨by decide +kernel, by decide +kernel⟩, List.mem_of_getElem? (i := 227) (by decide +kernel), List.mem_of_getElem? (i := 692) (by decide +kernel), List.mem_of_getElem? (i := 693) (by decide +kernel)⟩
theorem lw_p56 : lw_okq (⟨"KnivesGround$Whole", "copyFrom", "(LKnivesGround$Whole;)V"⟩, 8) := ⟨⟨by decide +kernel, by decide +kernel⟩, List.mem_of_getElem? (i := 22) (by decide +kernel), List.mem_of_getElem? (i := 710) (by decide +kernel), List.mem_of_getElem? (i := 711) (by decide +kernel)⟩
theorem lw_p57 : lw_okq (⟨"KnivesGround$Ground", "edgesTogether", "()I"⟩, 9) := ⟨⟨by decide +kernel, by decide +kernel⟩, List.mem_of_getElem? (i := 55) (by decide +kernel), List.mem_of_getElem? (i := 733) (by decide +kernel), List.mem_of_getElem? (i := 734) (by decide +kernel)⟩
theorem lw_p58 : lw_okq (⟨"KnivesGroundModel", "becomes", "(II)I"⟩, 24) := ⟨⟨by decide +kernel, by decide +kernel⟩, List.mem_of_getElem? (i := 741) (by decide +kernel), List.mem_of_getElem? (i := 831) (by decide +kernel), List.mem_of_getElem? (i := 832) (by decide +kernel)⟩
theorem lw_p59 : lw_okq (⟨"KnivesGroundModel", "errs", "(I)I"⟩, 24) := ⟨⟨by decide +kernel, by decide +kernel⟩, List.mem_of_getElem? (i := 741) (by decide +kernel), List.mem_of_getElem? (i := 836) (by decide +kernel), List.mem_of_getElem? (i := 837) (by decide +kernel)⟩
theorem lw_p60 : lw_okq (⟨"KnivesGroundModel", "its", "(II)I"⟩, 24) := ⟨⟨by decide +kernel, by decide +kernel⟩, List.mem_of_getElem? (i := 741) (by decide +kernel), List.mem_of_getElem? (i := 845) (by decide +kernel), List.mem_of_getElem? (i := 846) (by decide +kernel)⟩
theorem lw_p61 : lw_okq (⟨"KnivesGroundModel", "gets", "(III)V"⟩, 24) := ⟨⟨by decide +kernel, by decide +kernel⟩, List.mem_of_getElem? (i := 741) (by decide +kernel), List.mem_of_getElem? (i := 854) (by decide +kernel), List.mem_of_getElem? (i := 855) (by decide +kernel)⟩
theorem lw_p62 : lw_okq (⟨"KnivesGroundModel", "isQuarrel", "(I)Z"⟩, 24) := ⟨⟨by decide +kernel, by decide +kernel⟩, List.mem_of_getElem? (i := 741) (by decide +kernel), List.mem_of_getElem? (i := 862) (by decide +kernel), List.mem_of_getElem? (i := 863) (by decide +kernel)⟩
theorem lw_p63 : lw_okq (⟨"KnivesGroundModel", "gains", "(I)I"⟩, 24) := ⟨⟨by decide +kernel, by decide +kernel⟩, List.mem_of_getElem? (i := 741) (by decide +kernel), List.mem_of_getElem? (i := 866) (by decide +kernel), List.mem_of_getElem? (i := 867) (by decide +kernel)⟩
def lw_privs_4 : List (MethodName × Nat) := [(⟨"KnivesGround$Voices", "sayGrinds", "(II)I"⟩, 5), (⟨"KnivesGround$Voices", "begin", "(I)V"⟩, 5), (⟨"KnivesGround$Voices", "sayCuts", "(II)I"⟩, 5), (⟨"KnivesGround$Voices", "saySparks", "(II)I"⟩, 5), (⟨"KnivesGround$Voices", "sayTells", "(II)I"⟩, 5), (⟨"KnivesGround$Sheet", "lay", "(II)V"⟩, 3), (⟨"KnivesGround$Sheet", "write", "(II)V"⟩, 3), (⟨"KnivesGround$Sheet", "hasNumbers", "(II)Z"⟩, 3), (⟨"KnivesGround$Whole", "copyFrom", "(LKnivesGround$Whole;)V"⟩, 8), (⟨"KnivesGround$Ground", "edgesTogether", "()I"⟩, 9), (⟨"KnivesGroundModel", "becomes", "(II)I"⟩, 24), (⟨"KnivesGroundModel", "errs", "(I)I"⟩, 24), (⟨"KnivesGroundModel", "its", "(II)I"⟩, 24), (⟨"KnivesGroundModel", "gets", "(III)V"⟩, 24), (⟨"KnivesGroundModel", "isQuarrel", "(I)Z"⟩, 24), (⟨"KnivesGroundModel", "gains", "(I)I"⟩, 24)]
theorem lw_r4 : ∀ q ∈ lw_privs_4, lw_okq q := List.forall_mem_cons.mpr ⟨lw_p48, List.forall_mem_cons.mpr ⟨lw_p49, List.forall_mem_cons.mpr ⟨lw_p50, List.forall_mem_cons.mpr ⟨lw_p51, List.forall_mem_cons.mpr ⟨lw_p52, List.forall_mem_cons.mpr ⟨lw_p53, List.forall_mem_cons.mpr ⟨lw_p54, List.forall_mem_cons.mpr ⟨lw_p55, List.forall_mem_cons.mpr ⟨lw_p56, List.forall_mem_cons.mpr ⟨lw_p57, List.forall_mem_cons.mpr ⟨lw_p58, List.forall_mem_cons.mpr ⟨lw_p59, List.forall_mem_cons.mpr ⟨lw_p60, List.forall_mem_cons.mpr ⟨lw_p61, List.forall_mem_cons.mpr ⟨lw_p62, List.forall_mem_cons.mpr ⟨lw_p63, fun _ h => absurd h List.not_mem_nil⟩⟩⟩⟩⟩⟩⟩⟩⟩⟩⟩⟩⟩⟩⟩⟩
theorem lw_p64 : lw_okq (⟨"KnivesGroundModel", "lawOf", "(IIII)I"⟩, 24) := ⟨⟨by decide +kernel, by decide +kernel⟩, List.mem_of_getElem? (i := 741) (by decide +kernel), List.mem_of_getElem? (i := 870) (by decide +kernel), List.mem_of_getElem? (i := 871) (by decide +kernel)⟩
theorem lw_p65 : lw_okq (⟨"KnivesGroundModel", "walks", "(IIII)I"⟩, 24) := ⟨⟨by decide +kernel, by decide +kernel⟩, List.mem_of_getElem? (i := 741) (by decide +kernel), List.mem_of_getElem? (i := 874) (by decide +kernel), List.mem_of_getElem? (i := 875) (by decide +kernel)⟩
theorem lw_p66 : lw_okq (⟨"KnivesGroundModel", "needs", "(I)I"⟩, 24) := ⟨⟨by decide +kernel, by decide +kernel⟩, List.mem_of_getElem? (i := 741) (by decide +kernel), List.mem_of_getElem? (i := 884) (by decide +kernel), List.mem_of_getElem? (i := 885) (by decide +kernel)⟩
theorem lw_p67 : lw_okq (⟨"KnivesGroundModel", "dulls", "(I)I"⟩, 24) := ⟨⟨by decide +kernel, by decide +kernel⟩, List.mem_of_getElem? (i := 741) (by decide +kernel), List.mem_of_getElem? (i := 888) (by decide +kernel), List.mem_of_getElem? (i := 889) (by decide +kernel)⟩
theorem lw_p68 : lw_okq (⟨"KnivesGroundModel", "whole", "()V"⟩, 24) := ⟨⟨by decide +kernel, by decide +kernel⟩, List.mem_of_getElem? (i := 741) (by decide +kernel), List.mem_of_getElem? (i := 921) (by decide +kernel), List.mem_of_getElem? (i := 922) (by decide +kernel)⟩
theorem lw_p69 : lw_okq (⟨"KnivesGroundModel", "both", "()V"⟩, 24) := ⟨⟨by decide +kernel, by decide +kernel⟩, List.mem_of_getElem? (i := 741) (by decide +kernel), List.mem_of_getElem? (i := 925) (by decide +kernel), List.mem_of_getElem? (i := 926) (by decide +kernel)⟩
theorem lw_p70 : lw_okq (⟨"KnivesGroundModel", "compared", "()V"⟩, 24) := ⟨⟨by decide +kernel, by decide +kernel⟩, List.mem_of_getElem? (i := 741) (by decide +kernel), List.mem_of_getElem? (i := 929) (by decide +kernel), List.mem_of_getElem? (i := 930) (by decide +kernel)⟩
theorem lw_p71 : lw_okq (⟨"KnivesGroundModel", "sum", "()V"⟩, 24) := ⟨⟨by decide +kernel, by decide +kernel⟩, List.mem_of_getElem? (i := 741) (by decide +kernel), List.mem_of_getElem? (i := 933) (by decide +kernel), List.mem_of_getElem? (i := 934) (by decide +kernel)⟩
theorem lw_p72 : lw_okq (⟨"KnivesGroundModel", "product", "()V"⟩, 24) := ⟨⟨by decide +kernel, by decide +kernel⟩, List.mem_of_getElem? (i := 741) (by decide +kernel), List.mem_of_getElem? (i := 937) (by decide +kernel), List.mem_of_getElem? (i := 938) (by decide +kernel)⟩
theorem lw_p73 : lw_okq (⟨"KnivesGroundModel", "factor", "()V"⟩, 24) := ⟨⟨by decide +kernel, by decide +kernel⟩, List.mem_of_getElem? (i := 741) (by decide +kernel), List.mem_of_getElem? (i := 941) (by decide +kernel), List.mem_of_getElem? (i := 942) (by decide +kernel)⟩
theorem lw_p74 : lw_okq (⟨"KnivesGroundModel", "byteAt", "(I)I"⟩, 24) := ⟨⟨by decide +kernel, by decide +kernel⟩, List.mem_of_getElem? (i := 741) (by decide +kernel), List.mem_of_getElem? (i := 945) (by decide +kernel), List.mem_of_getElem? (i := 946) (by decide +kernel)⟩
theorem lw_p75 : lw_okq (⟨"KnivesGroundModel", "number", "()V"⟩, 24) := ⟨⟨by decide +kernel, by decide +kernel⟩, List.mem_of_getElem? (i := 741) (by decide +kernel), List.mem_of_getElem? (i := 952) (by decide +kernel), List.mem_of_getElem? (i := 953) (by decide +kernel)⟩
theorem lw_p76 : lw_okq (⟨"KnivesGroundModel", "adds", "(I)V"⟩, 24) := ⟨⟨by decide +kernel, by decide +kernel⟩, List.mem_of_getElem? (i := 741) (by decide +kernel), List.mem_of_getElem? (i := 956) (by decide +kernel), List.mem_of_getElem? (i := 957) (by decide +kernel)⟩
theorem lw_p77 : lw_okq (⟨"KnivesGroundModel", "named", "(I)V"⟩, 24) := ⟨⟨by decide +kernel, by decide +kernel⟩, List.mem_of_getElem? (i := 741) (by decide +kernel), List.mem_of_getElem? (i := 960) (by decide +kernel), List.mem_of_getElem? (i := 961) (by decide +kernel)⟩
theorem lw_p78 : lw_okq (⟨"KnivesGroundModel", "passes", "(I)V"⟩, 24) := ⟨⟨by decide +kernel, by decide +kernel⟩, List.mem_of_getElem? (i := 741) (by decide +kernel), List.mem_of_getElem? (i := 969) (by decide +kernel), List.mem_of_getElem? (i := 970) (by decide +kernel)⟩
theorem lw_p79 : lw_okq (⟨"KnivesGroundModel", "oneDay", "(Z)V"⟩, 24) := ⟨⟨by decide +kernel, by decide +kernel⟩, List.mem_of_getElem? (i := 741) (by decide +kernel), List.mem_of_getElem? (i := 973) (by decide +kernel), List.mem_of_getElem? (i := 974) (by decide +kernel)⟩
def lw_privs_5 : List (MethodName × Nat) := [(⟨"KnivesGroundModel", "lawOf", "(IIII)I"⟩, 24), (⟨"KnivesGroundModel", "walks", "(IIII)I"⟩, 24), (⟨"KnivesGroundModel", "needs", "(I)I"⟩, 24), (⟨"KnivesGroundModel", "dulls", "(I)I"⟩, 24), (⟨"KnivesGroundModel", "whole", "()V"⟩, 24), (⟨"KnivesGroundModel", "both", "()V"⟩, 24), (⟨"KnivesGroundModel", "compared", "()V"⟩, 24), (⟨"KnivesGroundModel", "sum", "()V"⟩, 24), (⟨"KnivesGroundModel", "product", "()V"⟩, 24), (⟨"KnivesGroundModel", "factor", "()V"⟩, 24), (⟨"KnivesGroundModel", "byteAt", "(I)I"⟩, 24), (⟨"KnivesGroundModel", "number", "()V"⟩, 24), (⟨"KnivesGroundModel", "adds", "(I)V"⟩, 24), (⟨"KnivesGroundModel", "named", "(I)V"⟩, 24), (⟨"KnivesGroundModel", "passes", "(I)V"⟩, 24), (⟨"KnivesGroundModel", "oneDay", "(Z)V"⟩, 24)]
theorem lw_r5 : ∀ q ∈ lw_privs_5, lw_okq q := List.forall_mem_cons.mpr ⟨lw_p64, List.forall_mem_cons.mpr ⟨lw_p65, List.forall_mem_cons.mpr ⟨lw_p66, List.forall_mem_cons.mpr ⟨lw_p67, List.forall_mem_cons.mpr ⟨lw_p68, List.forall_mem_cons.mpr ⟨lw_p69, List.forall_mem_cons.mpr ⟨lw_p70, List.forall_mem_cons.mpr ⟨lw_p71, List.forall_mem_cons.mpr ⟨lw_p72, List.forall_mem_cons.mpr ⟨lw_p73, List.forall_mem_cons.mpr ⟨lw_p74, List.forall_mem_cons.mpr ⟨lw_p75, List.forall_mem_cons.mpr ⟨lw_p76, List.forall_mem_cons.mpr ⟨lw_p77, List.forall_mem_cons.mpr ⟨lw_p78, List.forall_mem_cons.mpr ⟨lw_p79, fun _ h => absurd h List.not_mem_nil⟩⟩⟩⟩⟩⟩⟩⟩⟩⟩⟩⟩⟩⟩⟩⟩
theorem lw_p80 : lw_okq (⟨"KnivesGroundModel", "grindsAll", "()V"⟩, 24) := ⟨⟨by decide +kernel, by decide +kernel⟩, List.mem_of_getElem? (i := 741) (by decide +kernel), List.mem_of_getElem? (i := 977) (by decide +kernel), List.mem_of_getElem? (i := 978) (by decide +kernel)⟩
theorem lw_p81 : lw_okq (⟨"KnivesGroundModel", "isOver", "(I)Z"⟩, 24) := ⟨⟨by decide +kernel, by decide +kernel⟩, List.mem_of_getElem? (i := 741) (by decide +kernel), List.mem_of_getElem? (i := 981) (by decide +kernel), List.mem_of_getElem? (i := 982) (by decide +kernel)⟩
theorem lw_p82 : lw_okq (⟨"KnivesGroundModel", "goesOn", "(I)V"⟩, 24) := ⟨⟨by decide +kernel, by decide +kernel⟩, List.mem_of_getElem? (i := 741) (by decide +kernel), List.mem_of_getElem? (i := 985) (by decide +kernel), List.mem_of_getElem? (i := 986) (by decide +kernel)⟩
theorem lw_p83 : lw_okq (⟨"KnivesGroundModel", "isLoose", "(I)Z"⟩, 24) := ⟨⟨by decide +kernel, by decide +kernel⟩, List.mem_of_getElem? (i := 741) (by decide +kernel), List.mem_of_getElem? (i := 989) (by decide +kernel), List.mem_of_getElem? (i := 990) (by decide +kernel)⟩
theorem lw_p84 : lw_okq (⟨"KnivesGroundModel", "overSet", "()I"⟩, 24) := ⟨⟨by decide +kernel, by decide +kernel⟩, List.mem_of_getElem? (i := 741) (by decide +kernel), List.mem_of_getElem? (i := 993) (by decide +kernel), List.mem_of_getElem? (i := 994) (by decide +kernel)⟩
theorem lw_p85 : lw_okq (⟨"KnivesGroundModel", "drawn", "(I)I"⟩, 24) := ⟨⟨by decide +kernel, by decide +kernel⟩, List.mem_of_getElem? (i := 741) (by decide +kernel), List.mem_of_getElem? (i := 1004) (by decide +kernel), List.mem_of_getElem? (i := 1005) (by decide +kernel)⟩
theorem lw_p86 : lw_okq (⟨"KnivesGroundModel", "moveAll", "([I[I)V"⟩, 24) := ⟨⟨by decide +kernel, by decide +kernel⟩, List.mem_of_getElem? (i := 741) (by decide +kernel), List.mem_of_getElem? (i := 1013) (by decide +kernel), List.mem_of_getElem? (i := 1014) (by decide +kernel)⟩
theorem lw_p87 : lw_okq (⟨"KnivesGroundModel", "overBehind", "(I)I"⟩, 24) := ⟨⟨by decide +kernel, by decide +kernel⟩, List.mem_of_getElem? (i := 741) (by decide +kernel), List.mem_of_getElem? (i := 1026) (by decide +kernel), List.mem_of_getElem? (i := 1027) (by decide +kernel)⟩
theorem lw_p88 : lw_okq (⟨"KnivesGroundModel", "mostOver", "(III)I"⟩, 24) := ⟨⟨by decide +kernel, by decide +kernel⟩, List.mem_of_getElem? (i := 741) (by decide +kernel), List.mem_of_getElem? (i := 1034) (by decide +kernel), List.mem_of_getElem? (i := 1035) (by decide +kernel)⟩
theorem lw_p89 : lw_okq (⟨"KnivesGroundModel", "isOverBy", "(III)Z"⟩, 24) := ⟨⟨by decide +kernel, by decide +kernel⟩, List.mem_of_getElem? (i := 741) (by decide +kernel), List.mem_of_getElem? (i := 1046) (by decide +kernel), List.mem_of_getElem? (i := 1047) (by decide +kernel)⟩
theorem lw_p90 : lw_okq (⟨"KnivesGroundModel", "areEdgesSo", "(I)Z"⟩, 24) := ⟨⟨by decide +kernel, by decide +kernel⟩, List.mem_of_getElem? (i := 741) (by decide +kernel), List.mem_of_getElem? (i := 1062) (by decide +kernel), List.mem_of_getElem? (i := 1063) (by decide +kernel)⟩
theorem lw_p91 : lw_okq (⟨"KnivesGroundModel", "grindsIn", "(II)I"⟩, 24) := ⟨⟨by decide +kernel, by decide +kernel⟩, List.mem_of_getElem? (i := 741) (by decide +kernel), List.mem_of_getElem? (i := 1105) (by decide +kernel), List.mem_of_getElem? (i := 1106) (by decide +kernel)⟩
theorem lw_p92 : lw_okq (⟨"KnivesGroundModel", "ran", "(I)V"⟩, 24) := ⟨⟨by decide +kernel, by decide +kernel⟩, List.mem_of_getElem? (i := 741) (by decide +kernel), List.mem_of_getElem? (i := 1109) (by decide +kernel), List.mem_of_getElem? (i := 1110) (by decide +kernel)⟩
theorem lw_p93 : lw_okq (⟨"KnivesGroundModel", "cutsIn", "(II)I"⟩, 24) := ⟨⟨by decide +kernel, by decide +kernel⟩, List.mem_of_getElem? (i := 741) (by decide +kernel), List.mem_of_getElem? (i := 1113) (by decide +kernel), List.mem_of_getElem? (i := 1114) (by decide +kernel)⟩
theorem lw_p94 : lw_okq (⟨"KnivesGroundModel", "sparksIn", "(II)I"⟩, 24) := ⟨⟨by decide +kernel, by decide +kernel⟩, List.mem_of_getElem? (i := 741) (by decide +kernel), List.mem_of_getElem? (i := 1117) (by decide +kernel), List.mem_of_getElem? (i := 1118) (by decide +kernel)⟩
theorem lw_p95 : lw_okq (⟨"KnivesGroundModel", "tellsIn", "(II)I"⟩, 24) := ⟨⟨by decide +kernel, by decide +kernel⟩, List.mem_of_getElem? (i := 741) (by decide +kernel), List.mem_of_getElem? (i := 1121) (by decide +kernel), List.mem_of_getElem? (i := 1122) (by decide +kernel)⟩
def lw_privs_6 : List (MethodName × Nat) := [(⟨"KnivesGroundModel", "grindsAll", "()V"⟩, 24), (⟨"KnivesGroundModel", "isOver", "(I)Z"⟩, 24), (⟨"KnivesGroundModel", "goesOn", "(I)V"⟩, 24), (⟨"KnivesGroundModel", "isLoose", "(I)Z"⟩, 24), (⟨"KnivesGroundModel", "overSet", "()I"⟩, 24), (⟨"KnivesGroundModel", "drawn", "(I)I"⟩, 24), (⟨"KnivesGroundModel", "moveAll", "([I[I)V"⟩, 24), (⟨"KnivesGroundModel", "overBehind", "(I)I"⟩, 24), (⟨"KnivesGroundModel", "mostOver", "(III)I"⟩, 24), (⟨"KnivesGroundModel", "isOverBy", "(III)Z"⟩, 24), (⟨"KnivesGroundModel", "areEdgesSo", "(I)Z"⟩, 24), (⟨"KnivesGroundModel", "grindsIn", "(II)I"⟩, 24), (⟨"KnivesGroundModel", "ran", "(I)V"⟩, 24), (⟨"KnivesGroundModel", "cutsIn", "(II)I"⟩, 24), (⟨"KnivesGroundModel", "sparksIn", "(II)I"⟩, 24), (⟨"KnivesGroundModel", "tellsIn", "(II)I"⟩, 24)]
theorem lw_r6 : ∀ q ∈ lw_privs_6, lw_okq q := List.forall_mem_cons.mpr ⟨lw_p80, List.forall_mem_cons.mpr ⟨lw_p81, List.forall_mem_cons.mpr ⟨lw_p82, List.forall_mem_cons.mpr ⟨lw_p83, List.forall_mem_cons.mpr ⟨lw_p84, List.forall_mem_cons.mpr ⟨lw_p85, List.forall_mem_cons.mpr ⟨lw_p86, List.forall_mem_cons.mpr ⟨lw_p87, List.forall_mem_cons.mpr ⟨lw_p88, List.forall_mem_cons.mpr ⟨lw_p89, List.forall_mem_cons.mpr ⟨lw_p90, List.forall_mem_cons.mpr ⟨lw_p91, List.forall_mem_cons.mpr ⟨lw_p92, List.forall_mem_cons.mpr ⟨lw_p93, List.forall_mem_cons.mpr ⟨lw_p94, List.forall_mem_cons.mpr ⟨lw_p95, fun _ h => absurd h List.not_mem_nil⟩⟩⟩⟩⟩⟩⟩⟩⟩⟩⟩⟩⟩⟩⟩⟩
theorem lw_p96 : lw_okq (⟨"KnivesGroundModel", "edgesOfAll", "()I"⟩, 24) := ⟨⟨by decide +kernel, by decide +kernel⟩, List.mem_of_getElem? (i := 741) (by decide +kernel), List.mem_of_getElem? (i := 1172) (by decide +kernel), List.mem_of_getElem? (i := 1173) (by decide +kernel)⟩
def lw_privs_7 : List (MethodName × Nat) := [(⟨"KnivesGroundModel", "edgesOfAll", "()I"⟩, 24)]
theorem lw_r7 : ∀ q ∈ lw_privs_7, lw_okq q := List.forall_mem_cons.mpr ⟨lw_p96, fun _ h => absurd h List.not_mem_nil⟩
def lw_privs : List (MethodName × Nat) := lw_privs_1 ++ (lw_privs_2 ++ (lw_privs_3 ++ (lw_privs_4 ++ (lw_privs_5 ++ (lw_privs_6 ++ (lw_privs_7))))))
def lw_tbl : List Cond := k2_sels lw_privs ++ tables_1
theorem lw_privs_ok : ∀ q ∈ lw_privs, lw_okq q := by
  show ∀ q ∈ lw_privs_1 ++ (lw_privs_2 ++ (lw_privs_3 ++ (lw_privs_4 ++ (lw_privs_5 ++ (lw_privs_6 ++ (lw_privs_7)))))), lw_okq q
  exact List.forall_mem_append.mpr ⟨lw_r1, List.forall_mem_append.mpr ⟨lw_r2, List.forall_mem_append.mpr ⟨lw_r3, List.forall_mem_append.mpr ⟨lw_r4, List.forall_mem_append.mpr ⟨lw_r5, List.forall_mem_append.mpr ⟨lw_r6, lw_r7⟩⟩⟩⟩⟩⟩
-- ===== end of PART A; then your names; then what follows =====
/-! ===== BEGIN words of one list among another's, by their places ===== -/
theorem goodIn_r {big : List Cond} (ws : List Cond) (ps : List Nat) (hp : ws = ps.filterMap (fun i => big[i]?)) (h : ws.all goodWord = true) : GoodIn big ws := by
  intro w hw
  have h1 := List.all_eq_true.mp h w hw
  rw [hp] at hw
  obtain ⟨i, -, hi⟩ := List.mem_filterMap.mp hw
  have hm : w ∈ big := by first | exact List.mem_of_getElem? hi | exact List.getElem?_mem hi
  exact ⟨hm, good_of_word h1⟩
theorem goodIn_app {big a b : List Cond} (ha : GoodIn big a) (hb : GoodIn big b) : GoodIn big (a ++ b) := fun w h => (List.mem_append.mp h).elim (ha w) (hb w)
theorem goodIn_ca {big a b : List Cond} {c : Cond} (ha : GoodIn big (c :: a)) (hb : GoodIn big b) : GoodIn big (c :: (a ++ b)) := fun w h => (List.mem_cons.mp h).elim (fun e => ha w (List.mem_cons.mpr (Or.inl e))) (fun h => (List.mem_append.mp h).elim (fun h => ha w (List.mem_cons.mpr (Or.inr h))) (hb w))
theorem goodIn_sub {big ws : List Cond} (hm : ∀ w ∈ ws, w ∈ big) (h : ws.all goodWord = true) : GoodIn big ws := fun w hw => ⟨hm w hw, good_of_word (List.all_eq_true.mp h w hw)⟩
/-! ===== END ===== -/

/-! ===== BEGIN printed: names, fields, word lists, decode rows ===== -/
def RX0 : String := "KnivesGround$Ground"
def TX0 : u_T := fun k => match k with
  | 0 => ("KnivesGround$Ground", "grinds", "LKnivesGround$Text;", true)
  | 1 => ("KnivesGround$Ground", "harms", "LKnivesGround$Text;", true)
  | 2 => ("KnivesGround$Ground", "ones", "[LKnivesGround$One;", true)
  | 3 => ("KnivesGround$Ground", "many", "I", false)
  | 4 => ("KnivesGround$Ground", "grinder", "I", false)
  | 5 => ("KnivesGround$Ground", "step", "I", false)
  | 6 => ("KnivesGround$Ground", "day", "I", false)
  | 7 => ("KnivesGround$Ground", "harm", "I", false)
  | _ => ("KnivesGround$Ground", "pence", "I", false)
def tyX0 : Nat → FieldType := fun k => match k with
  | 0 => .object "KnivesGround$Text"
  | 1 => .object "KnivesGround$Text"
  | 2 => .array (.object "KnivesGround$One")
  | 3 => .int
  | 4 => .int
  | 5 => .int
  | 6 => .int
  | 7 => .int
  | _ => .int
abbrev wsX00 : List Cond := u_ws RX0 TX0 9
theorem nmX0 : ∀ a, a < 9 → ∀ b, b < 9 → a ≠ b → (TX0 a).2.1 ≠ (TX0 b).2.1 := by decide +kernel
theorem tyX0_ok : ∀ k, k < 9 → parseFieldDescriptor (TX0 k).2.2.1 = some (tyX0 k) := by decide +kernel
abbrev cX0_init : ByteArray := prog_2_method_1_code
def yX0_init : MethodName := ⟨RX0, "<init>", "(LKnivesGround$Text;LKnivesGround$Text;)V"⟩
abbrev cX0_copyFrom : ByteArray := prog_2_method_2_code
def yX0_copyFrom : MethodName := ⟨RX0, "copyFrom", "(LKnivesGround$Ground;)V"⟩
abbrev cX0_setGrinder : ByteArray := prog_2_method_3_code
def yX0_setGrinder : MethodName := ⟨RX0, "setGrinder", "(II)I"⟩
abbrev cX0_passDay : ByteArray := prog_2_method_4_code
def yX0_passDay : MethodName := ⟨RX0, "passDay", "(Z)V"⟩
abbrev cX0_restDay : ByteArray := prog_2_method_5_code
def yX0_restDay : MethodName := ⟨RX0, "restDay", "(Z)V"⟩
abbrev cX0_grindArea : ByteArray := prog_2_method_6_code
def yX0_grindArea : MethodName := ⟨RX0, "grindArea", "()V"⟩
abbrev cX0_endOrDull : ByteArray := prog_2_method_7_code
def yX0_endOrDull : MethodName := ⟨RX0, "endOrDull", "(Z)V"⟩
abbrev cX0_gainsOf : ByteArray := prog_2_method_8_code
def yX0_gainsOf : MethodName := ⟨RX0, "gainsOf", "(LKnivesGround$One;)I"⟩
abbrev cX0_isFree : ByteArray := prog_2_method_9_code
def yX0_isFree : MethodName := ⟨RX0, "isFree", "(LKnivesGround$One;)Z"⟩
abbrev cX0_sharpen : ByteArray := prog_2_method_10_code
def yX0_sharpen : MethodName := ⟨RX0, "sharpen", "(I)V"⟩
abbrev cX0_hasEdges : ByteArray := prog_2_method_11_code
def yX0_hasEdges : MethodName := ⟨RX0, "hasEdges", "(LKnivesGround$Sheet;)Z"⟩
abbrev cX0_edgesTogether : ByteArray := prog_2_method_12_code
def yX0_edgesTogether : MethodName := ⟨RX0, "edgesTogether", "()I"⟩
abbrev cX0_endedMany : ByteArray := prog_2_method_13_code
def yX0_endedMany : MethodName := ⟨RX0, "endedMany", "()I"⟩
abbrev cX0_setEnded : ByteArray := prog_2_method_14_code
def yX0_setEnded : MethodName := ⟨RX0, "setEnded", "()I"⟩
abbrev cX0_setInArea : ByteArray := prog_2_method_15_code
def yX0_setInArea : MethodName := ⟨RX0, "setInArea", "(I)I"⟩
abbrev cX0_setFree : ByteArray := prog_2_method_16_code
def yX0_setFree : MethodName := ⟨RX0, "setFree", "()I"⟩
abbrev cX0_setHangingOn : ByteArray := prog_2_method_17_code
def yX0_setHangingOn : MethodName := ⟨RX0, "setHangingOn", "(I)I"⟩
abbrev cX0_setItHangsOn : ByteArray := prog_2_method_18_code
def yX0_setItHangsOn : MethodName := ⟨RX0, "setItHangsOn", "(I)I"⟩
def RX1 : String := "KnivesGround$One"
def TX1 : u_T := fun k => match k with
  | 0 => ("KnivesGround$One", "kind", "I", false)
  | 1 => ("KnivesGround$One", "m", "I", false)
  | 2 => ("KnivesGround$One", "area", "I", false)
  | 3 => ("KnivesGround$One", "edge", "I", false)
  | 4 => ("KnivesGround$One", "on", "I", false)
  | 5 => ("KnivesGround$One", "age", "I", false)
  | _ => ("KnivesGround$One", "ended", "Z", false)
def tyX1 : Nat → FieldType := fun k => match k with
  | 0 => .int
  | 1 => .int
  | 2 => .int
  | 3 => .int
  | 4 => .int
  | 5 => .int
  | _ => .boolean
abbrev wsX10 : List Cond := u_ws RX1 TX1 7
theorem nmX1 : ∀ a, a < 7 → ∀ b, b < 7 → a ≠ b → (TX1 a).2.1 ≠ (TX1 b).2.1 := by decide +kernel
theorem tyX1_ok : ∀ k, k < 7 → parseFieldDescriptor (TX1 k).2.2.1 = some (tyX1 k) := by decide +kernel
abbrev cX1_init : ByteArray := prog_3_method_1_code
def yX1_init : MethodName := ⟨RX1, "<init>", "()V"⟩
abbrev cX1_turnInto : ByteArray := prog_3_method_2_code
def yX1_turnInto : MethodName := ⟨RX1, "turnInto", "(I)V"⟩
abbrev cX1_copyFrom : ByteArray := prog_3_method_3_code
def yX1_copyFrom : MethodName := ⟨RX1, "copyFrom", "(LKnivesGround$One;)V"⟩
abbrev cX1_changeTo : ByteArray := prog_3_method_4_code
def yX1_changeTo : MethodName := ⟨RX1, "changeTo", "(II)I"⟩
abbrev cX1_isOfKind : ByteArray := prog_3_method_5_code
def yX1_isOfKind : MethodName := ⟨RX1, "isOfKind", "(I)Z"⟩
abbrev cX1_gains : ByteArray := prog_3_method_6_code
def yX1_gains : MethodName := ⟨RX1, "gains", "(II)I"⟩
abbrev cX1_needs : ByteArray := prog_3_method_7_code
def yX1_needs : MethodName := ⟨RX1, "needs", "()I"⟩
abbrev cX1_dulls : ByteArray := prog_3_method_8_code
def yX1_dulls : MethodName := ⟨RX1, "dulls", "()I"⟩
def RX2 : String := "KnivesGround$Reader"
def TX2 : u_T := fun k => match k with
  | 0 => ("KnivesGround$Reader", "text", "LKnivesGround$Text;", true)
  | 1 => ("KnivesGround$Reader", "bytes", "[I", true)
  | 2 => ("KnivesGround$Reader", "many", "I", false)
  | 3 => ("KnivesGround$Reader", "place", "I", false)
  | _ => ("KnivesGround$Reader", "fault", "I", false)
def tyX2 : Nat → FieldType := fun k => match k with
  | 0 => .object "KnivesGround$Text"
  | 1 => .array .int
  | 2 => .int
  | 3 => .int
  | _ => .int
abbrev wsX20 : List Cond := u_ws RX2 TX2 5
theorem nmX2 : ∀ a, a < 5 → ∀ b, b < 5 → a ≠ b → (TX2 a).2.1 ≠ (TX2 b).2.1 := by decide +kernel
theorem tyX2_ok : ∀ k, k < 5 → parseFieldDescriptor (TX2 k).2.2.1 = some (tyX2 k) := by decide +kernel
abbrev cX2_init : ByteArray := prog_4_method_1_code
def yX2_init : MethodName := ⟨RX2, "<init>", "()V"⟩
abbrev cX2_read : ByteArray := prog_4_method_2_code
def yX2_read : MethodName := ⟨RX2, "read", "([III)I"⟩
abbrev cX2_readLevel : ByteArray := prog_4_method_3_code
def yX2_readLevel : MethodName := ⟨RX2, "readLevel", "(II)I"⟩
abbrev cX2_readInnermost : ByteArray := prog_4_method_4_code
def yX2_readInnermost : MethodName := ⟨RX2, "readInnermost", "(I)I"⟩
abbrev cX2_readNumber : ByteArray := prog_4_method_5_code
def yX2_readNumber : MethodName := ⟨RX2, "readNumber", "()I"⟩
abbrev cX2_readNot : ByteArray := prog_4_method_6_code
def yX2_readNot : MethodName := ⟨RX2, "readNot", "(I)I"⟩
abbrev cX2_readBrackets : ByteArray := prog_4_method_7_code
def yX2_readBrackets : MethodName := ⟨RX2, "readBrackets", "(I)I"⟩
abbrev cX2_stop : ByteArray := prog_4_method_8_code
def yX2_stop : MethodName := ⟨RX2, "stop", "()I"⟩
abbrev cX2_next : ByteArray := prog_4_method_9_code
def yX2_next : MethodName := ⟨RX2, "next", "()I"⟩
abbrev cX2_nameOf : ByteArray := prog_4_method_10_code
def yX2_nameOf : MethodName := ⟨RX2, "nameOf", "(I)I"⟩
abbrev cX2_isDigit : ByteArray := prog_4_method_11_code
def yX2_isDigit : MethodName := ⟨RX2, "isDigit", "(I)Z"⟩
abbrev cX2_levelOf : ByteArray := prog_4_method_12_code
def yX2_levelOf : MethodName := ⟨RX2, "levelOf", "(I)I"⟩
def RX3 : String := "KnivesGround$Sheet"
def TX3 : u_T := fun k => match k with
  | 0 => ("KnivesGround$Sheet", "numbers", "[I", true)
  | 1 => ("KnivesGround$Sheet", "bits", "I", false)
  | _ => ("KnivesGround$Sheet", "many", "I", false)
def tyX3 : Nat → FieldType := fun k => match k with
  | 0 => .array .int
  | 1 => .int
  | _ => .int
abbrev wsX30 : List Cond := u_ws RX3 TX3 3
theorem nmX3 : ∀ a, a < 3 → ∀ b, b < 3 → a ≠ b → (TX3 a).2.1 ≠ (TX3 b).2.1 := by decide +kernel
theorem tyX3_ok : ∀ k, k < 3 → parseFieldDescriptor (TX3 k).2.2.1 = some (tyX3 k) := by decide +kernel
abbrev cX3_init : ByteArray := prog_5_method_1_code
def yX3_init : MethodName := ⟨RX3, "<init>", "()V"⟩
abbrev cX3_isMissing : ByteArray := prog_5_method_2_code
def yX3_isMissing : MethodName := ⟨RX3, "isMissing", "()Z"⟩
abbrev cX3_lay : ByteArray := prog_5_method_3_code
def yX3_lay : MethodName := ⟨RX3, "lay", "(II)V"⟩
abbrev cX3_write : ByteArray := prog_5_method_4_code
def yX3_write : MethodName := ⟨RX3, "write", "(II)V"⟩
abbrev cX3_hasNumbers : ByteArray := prog_5_method_5_code
def yX3_hasNumbers : MethodName := ⟨RX3, "hasNumbers", "(II)Z"⟩
def RX4 : String := "KnivesGround$Text"
def TX4 : u_T := fun k => match k with
  | 0 => ("KnivesGround$Text", "signs", "[I", true)
  | 1 => ("KnivesGround$Text", "lefts", "[I", true)
  | 2 => ("KnivesGround$Text", "rights", "[I", true)
  | 3 => ("KnivesGround$Text", "values", "[I", true)
  | 4 => ("KnivesGround$Text", "use", "I", false)
  | _ => ("KnivesGround$Text", "size", "I", false)
def tyX4 : Nat → FieldType := fun k => match k with
  | 0 => .array .int
  | 1 => .array .int
  | 2 => .array .int
  | 3 => .array .int
  | 4 => .int
  | _ => .int
abbrev wsX40 : List Cond := u_ws RX4 TX4 6
theorem nmX4 : ∀ a, a < 6 → ∀ b, b < 6 → a ≠ b → (TX4 a).2.1 ≠ (TX4 b).2.1 := by decide +kernel
theorem tyX4_ok : ∀ k, k < 6 → parseFieldDescriptor (TX4 k).2.2.1 = some (tyX4 k) := by decide +kernel
abbrev cX4_init : ByteArray := prog_6_method_1_code
def yX4_init : MethodName := ⟨RX4, "<init>", "()V"⟩
abbrev cX4_clear : ByteArray := prog_6_method_2_code
def yX4_clear : MethodName := ⟨RX4, "clear", "(I)V"⟩
abbrev cX4_add : ByteArray := prog_6_method_3_code
def yX4_add : MethodName := ⟨RX4, "add", "(III)I"⟩
abbrev cX4_copyFrom : ByteArray := prog_6_method_4_code
def yX4_copyFrom : MethodName := ⟨RX4, "copyFrom", "(LKnivesGround$Text;)V"⟩
abbrev cX4_gives : ByteArray := prog_6_method_5_code
def yX4_gives : MethodName := ⟨RX4, "gives", "(III)I"⟩
abbrev cX4_workedOut : ByteArray := prog_6_method_6_code
def yX4_workedOut : MethodName := ⟨RX4, "workedOut", "(III)I"⟩
abbrev cX4_joined : ByteArray := prog_6_method_7_code
def yX4_joined : MethodName := ⟨RX4, "joined", "(III)I"⟩
def RX5 : String := "KnivesGround$Voices"
def TX5 : u_T := fun k => match k with
  | 0 => ("KnivesGround$Voices", "trace", "[I", true)
  | 1 => ("KnivesGround$Voices", "bodies", "I", false)
  | 2 => ("KnivesGround$Voices", "own", "I", false)
  | 3 => ("KnivesGround$Voices", "n", "I", false)
  | _ => ("KnivesGround$Voices", "m", "I", false)
def tyX5 : Nat → FieldType := fun k => match k with
  | 0 => .array .int
  | 1 => .int
  | 2 => .int
  | 3 => .int
  | _ => .int
abbrev wsX50 : List Cond := u_ws RX5 TX5 5
theorem nmX5 : ∀ a, a < 5 → ∀ b, b < 5 → a ≠ b → (TX5 a).2.1 ≠ (TX5 b).2.1 := by decide +kernel
theorem tyX5_ok : ∀ k, k < 5 → parseFieldDescriptor (TX5 k).2.2.1 = some (tyX5 k) := by decide +kernel
abbrev cX5_init : ByteArray := prog_7_method_1_code
def yX5_init : MethodName := ⟨RX5, "<init>", "()V"⟩
abbrev cX5_beginWith : ByteArray := prog_7_method_2_code
def yX5_beginWith : MethodName := ⟨RX5, "beginWith", "(III)V"⟩
abbrev cX5_say : ByteArray := prog_7_method_3_code
def yX5_say : MethodName := ⟨RX5, "say", "(II)I"⟩
abbrev cX5_begin : ByteArray := prog_7_method_4_code
def yX5_begin : MethodName := ⟨RX5, "begin", "(I)V"⟩
abbrev cX5_sayGrinds : ByteArray := prog_7_method_5_code
def yX5_sayGrinds : MethodName := ⟨RX5, "sayGrinds", "(II)I"⟩
abbrev cX5_sayCuts : ByteArray := prog_7_method_6_code
def yX5_sayCuts : MethodName := ⟨RX5, "sayCuts", "(II)I"⟩
abbrev cX5_saySparks : ByteArray := prog_7_method_7_code
def yX5_saySparks : MethodName := ⟨RX5, "saySparks", "(II)I"⟩
abbrev cX5_sayTells : ByteArray := prog_7_method_8_code
def yX5_sayTells : MethodName := ⟨RX5, "sayTells", "(II)I"⟩
def RX6 : String := "KnivesGround$Whole"
def TX6 : u_T := fun k => match k with
  | 0 => ("KnivesGround$Whole", "grinds", "LKnivesGround$Text;", true)
  | 1 => ("KnivesGround$Whole", "harms", "LKnivesGround$Text;", true)
  | 2 => ("KnivesGround$Whole", "ground", "LKnivesGround$Ground;", true)
  | 3 => ("KnivesGround$Whole", "tape", "[I", true)
  | 4 => ("KnivesGround$Whole", "waiting", "[I", true)
  | 5 => ("KnivesGround$Whole", "bytes", "I", false)
  | 6 => ("KnivesGround$Whole", "waits", "I", false)
  | _ => ("KnivesGround$Whole", "z", "I", false)
def tyX6 : Nat → FieldType := fun k => match k with
  | 0 => .object "KnivesGround$Text"
  | 1 => .object "KnivesGround$Text"
  | 2 => .object "KnivesGround$Ground"
  | 3 => .array .int
  | 4 => .array .int
  | 5 => .int
  | 6 => .int
  | _ => .int
abbrev wsX60 : List Cond := u_ws RX6 TX6 8
theorem nmX6 : ∀ a, a < 8 → ∀ b, b < 8 → a ≠ b → (TX6 a).2.1 ≠ (TX6 b).2.1 := by decide +kernel
theorem tyX6_ok : ∀ k, k < 8 → parseFieldDescriptor (TX6 k).2.2.1 = some (tyX6 k) := by decide +kernel
abbrev cX6_init : ByteArray := prog_8_method_1_code
def yX6_init : MethodName := ⟨RX6, "<init>", "()V"⟩
abbrev cX6_textOf : ByteArray := prog_8_method_2_code
def yX6_textOf : MethodName := ⟨RX6, "textOf", "(I)LKnivesGround$Text;"⟩
abbrev cX6_draw : ByteArray := prog_8_method_3_code
def yX6_draw : MethodName := ⟨RX6, "draw", "()I"⟩
abbrev cX6_copyFrom : ByteArray := prog_8_method_4_code
def yX6_copyFrom : MethodName := ⟨RX6, "copyFrom", "(LKnivesGround$Whole;)V"⟩
def RX7 : String := "KnivesGround"
def TX7 : u_T := fun k => match k with
  | 0 => ("KnivesGround", "now", "LKnivesGround$Whole;", true)
  | 1 => ("KnivesGround", "kept", "LKnivesGround$Whole;", true)
  | 2 => ("KnivesGround", "thought", "LKnivesGround$Ground;", true)
  | 3 => ("KnivesGround", "reader", "LKnivesGround$Reader;", true)
  | 4 => ("KnivesGround", "voices", "LKnivesGround$Voices;", true)
  | 5 => ("KnivesGround", "sheets", "[LKnivesGround$Sheet;", true)
  | 6 => ("KnivesGround", "refused", "[I", true)
  | _ => ("KnivesGround", "images", "I", false)
def tyX7 : Nat → FieldType := fun k => match k with
  | 0 => .object "KnivesGround$Whole"
  | 1 => .object "KnivesGround$Whole"
  | 2 => .object "KnivesGround$Ground"
  | 3 => .object "KnivesGround$Reader"
  | 4 => .object "KnivesGround$Voices"
  | 5 => .array (.object "KnivesGround$Sheet")
  | 6 => .array .int
  | _ => .int
abbrev wsX70 : List Cond := u_ws RX7 TX7 8
theorem nmX7 : ∀ a, a < 8 → ∀ b, b < 8 → a ≠ b → (TX7 a).2.1 ≠ (TX7 b).2.1 := by decide +kernel
theorem tyX7_ok : ∀ k, k < 8 → parseFieldDescriptor (TX7 k).2.2.1 = some (tyX7 k) := by decide +kernel
abbrev cX7_init : ByteArray := prog_1_method_1_code
def yX7_init : MethodName := ⟨RX7, "<init>", "()V"⟩
abbrev cX7_set : ByteArray := prog_1_method_2_code
def yX7_set : MethodName := ⟨RX7, "set", "(II)I"⟩
abbrev cX7_inArea : ByteArray := prog_1_method_3_code
def yX7_inArea : MethodName := ⟨RX7, "inArea", "(I)I"⟩
abbrev cX7_quarrel : ByteArray := prog_1_method_4_code
def yX7_quarrel : MethodName := ⟨RX7, "quarrel", "(IIII)I"⟩
abbrev cX7_ofQuarrel : ByteArray := prog_1_method_5_code
def yX7_ofQuarrel : MethodName := ⟨RX7, "ofQuarrel", "(II)I"⟩
abbrev cX7_change : ByteArray := prog_1_method_6_code
def yX7_change : MethodName := ⟨RX7, "change", "(III)I"⟩
abbrev cX7_become : ByteArray := prog_1_method_7_code
def yX7_become : MethodName := ⟨RX7, "become", "(II)I"⟩
abbrev cX7_as : ByteArray := prog_1_method_8_code
def yX7_as : MethodName := ⟨RX7, "as", "(II)I"⟩
abbrev cX7_feed : ByteArray := prog_1_method_9_code
def yX7_feed : MethodName := ⟨RX7, "feed", "(JI)I"⟩
abbrev cX7_text : ByteArray := prog_1_method_10_code
def yX7_text : MethodName := ⟨RX7, "text", "(I)I"⟩
abbrev cX7_law : ByteArray := prog_1_method_11_code
def yX7_law : MethodName := ⟨RX7, "law", "(IIII)I"⟩
abbrev cX7_days : ByteArray := prog_1_method_12_code
def yX7_days : MethodName := ⟨RX7, "days", "(I)I"⟩
abbrev cX7_loose : ByteArray := prog_1_method_13_code
def yX7_loose : MethodName := ⟨RX7, "loose", "(I)I"⟩
abbrev cX7_then : ByteArray := prog_1_method_14_code
def yX7_then : MethodName := ⟨RX7, "then", "(III)I"⟩
abbrev cX7_when : ByteArray := prog_1_method_15_code
def yX7_when : MethodName := ⟨RX7, "when", "(I)I"⟩
abbrev cX7_ended : ByteArray := prog_1_method_16_code
def yX7_ended : MethodName := ⟨RX7, "ended", "(I)I"⟩
abbrev cX7_start : ByteArray := prog_1_method_17_code
def yX7_start : MethodName := ⟨RX7, "start", "(II)I"⟩
abbrev cX7_pace : ByteArray := prog_1_method_18_code
def yX7_pace : MethodName := ⟨RX7, "pace", "(II)I"⟩
abbrev cX7_hand : ByteArray := prog_1_method_19_code
def yX7_hand : MethodName := ⟨RX7, "hand", "(II)I"⟩
abbrev cX7_first : ByteArray := prog_1_method_20_code
def yX7_first : MethodName := ⟨RX7, "first", "(II)I"⟩
abbrev cX7_sparks : ByteArray := prog_1_method_21_code
def yX7_sparks : MethodName := ⟨RX7, "sparks", "(II)I"⟩
abbrev cX7_last : ByteArray := prog_1_method_22_code
def yX7_last : MethodName := ⟨RX7, "last", "(I)I"⟩
abbrev cX7_sharp : ByteArray := prog_1_method_23_code
def yX7_sharp : MethodName := ⟨RX7, "sharp", "(II)I"⟩
abbrev cX7_off : ByteArray := prog_1_method_24_code
def yX7_off : MethodName := ⟨RX7, "off", "(I)I"⟩
abbrev cX7_chain : ByteArray := prog_1_method_25_code
def yX7_chain : MethodName := ⟨RX7, "chain", "(I)I"⟩
abbrev cX7_fee : ByteArray := prog_1_method_26_code
def yX7_fee : MethodName := ⟨RX7, "fee", "(I)I"⟩
abbrev cX7_free : ByteArray := prog_1_method_27_code
def yX7_free : MethodName := ⟨RX7, "free", "()I"⟩
abbrev cX7_odds : ByteArray := prog_1_method_28_code
def yX7_odds : MethodName := ⟨RX7, "odds", "(III)I"⟩
abbrev cX7_seed : ByteArray := prog_1_method_29_code
def yX7_seed : MethodName := ⟨RX7, "seed", "(I)I"⟩
abbrev cX7_voice : ByteArray := prog_1_method_30_code
def yX7_voice : MethodName := ⟨RX7, "voice", "(III)I"⟩
abbrev cX7_trace : ByteArray := prog_1_method_31_code
def yX7_trace : MethodName := ⟨RX7, "trace", "(I)I"⟩
abbrev cX7_sheet : ByteArray := prog_1_method_32_code
def yX7_sheet : MethodName := ⟨RX7, "sheet", "(III)I"⟩
abbrev cX7_put : ByteArray := prog_1_method_33_code
def yX7_put : MethodName := ⟨RX7, "put", "(III)I"⟩
abbrev cX7_move : ByteArray := prog_1_method_34_code
def yX7_move : MethodName := ⟨RX7, "move", "(IIIII)I"⟩
abbrev cX7_edges : ByteArray := prog_1_method_35_code
def yX7_edges : MethodName := ⟨RX7, "edges", "(I)I"⟩
abbrev cX7_judge : ByteArray := prog_1_method_36_code
def yX7_judge : MethodName := ⟨RX7, "judge", "(I)I"⟩
abbrev cX7_image : ByteArray := prog_1_method_37_code
def yX7_image : MethodName := ⟨RX7, "image", "()I"⟩
abbrev cX7_restore : ByteArray := prog_1_method_38_code
def yX7_restore : MethodName := ⟨RX7, "restore", "()I"⟩
abbrev cX7_tell : ByteArray := prog_1_method_39_code
def yX7_tell : MethodName := ⟨RX7, "tell", "(I)I"⟩
abbrev cX7_check : ByteArray := prog_1_method_40_code
def yX7_check : MethodName := ⟨RX7, "check", "()I"⟩
abbrev cX7_count : ByteArray := prog_1_method_41_code
def yX7_count : MethodName := ⟨RX7, "count", "(I)I"⟩
abbrev cX7_told : ByteArray := prog_1_method_42_code
def yX7_told : MethodName := ⟨RX7, "told", "(I)I"⟩
abbrev cX7_refuse : ByteArray := prog_1_method_43_code
def yX7_refuse : MethodName := ⟨RX7, "refuse", "(I)I"⟩
abbrev cX7_isQuarrel : ByteArray := prog_1_method_44_code
def yX7_isQuarrel : MethodName := ⟨RX7, "isQuarrel", "(I)Z"⟩
abbrev cX7_isSheet : ByteArray := prog_1_method_45_code
def yX7_isSheet : MethodName := ⟨RX7, "isSheet", "(I)Z"⟩
abbrev cX7_isKindAndM : ByteArray := prog_1_method_46_code
def yX7_isKindAndM : MethodName := ⟨RX7, "isKindAndM", "(I)Z"⟩
abbrev cX7_isWithin : ByteArray := prog_1_method_47_code
def yX7_isWithin : MethodName := ⟨RX7, "isWithin", "(III)Z"⟩
abbrev cX7_mostOfGrinder : ByteArray := prog_1_method_48_code
def yX7_mostOfGrinder : MethodName := ⟨RX7, "mostOfGrinder", "(I)I"⟩
abbrev cX7_mostOfQuarrel : ByteArray := prog_1_method_49_code
def yX7_mostOfQuarrel : MethodName := ⟨RX7, "mostOfQuarrel", "(I)I"⟩
abbrev cX7_greatestOf : ByteArray := prog_1_method_50_code
def yX7_greatestOf : MethodName := ⟨RX7, "greatestOf", "(I)I"⟩
abbrev cX7_greatestDivisor : ByteArray := prog_1_method_51_code
def yX7_greatestDivisor : MethodName := ⟨RX7, "greatestDivisor", "(II)I"⟩
abbrev cX7_think : ByteArray := prog_1_method_52_code
def yX7_think : MethodName := ⟨RX7, "think", "()V"⟩
abbrev cX7_thinkDays : ByteArray := prog_1_method_53_code
def yX7_thinkDays : MethodName := ⟨RX7, "thinkDays", "(I)V"⟩
abbrev cX7_thinkDaysWithHarm : ByteArray := prog_1_method_54_code
def yX7_thinkDaysWithHarm : MethodName := ⟨RX7, "thinkDaysWithHarm", "(I)V"⟩
abbrev cX7_endsInThought : ByteArray := prog_1_method_55_code
def yX7_endsInThought : MethodName := ⟨RX7, "endsInThought", "(II)Z"⟩
def RX8 : String := "KnivesGroundModel"
def TX8 : u_T := fun k => match k with
  | 0 => ("KnivesGroundModel", "row", "[I", true)
  | 1 => ("KnivesGroundModel", "kept", "[I", true)
  | 2 => ("KnivesGroundModel", "tried", "[I", true)
  | 3 => ("KnivesGroundModel", "isKept", "Z", false)
  | 4 => ("KnivesGroundModel", "images", "I", false)
  | 5 => ("KnivesGroundModel", "found", "[I", true)
  | 6 => ("KnivesGroundModel", "use", "I", false)
  | 7 => ("KnivesGroundModel", "at", "I", false)
  | 8 => ("KnivesGroundModel", "end", "I", false)
  | 9 => ("KnivesGroundModel", "open", "I", false)
  | 10 => ("KnivesGroundModel", "steps", "I", false)
  | 11 => ("KnivesGroundModel", "good", "Z", false)
  | 12 => ("KnivesGroundModel", "made", "[I", true)
  | 13 => ("KnivesGroundModel", "pile", "[I", true)
  | 14 => ("KnivesGroundModel", "names", "[I", true)
  | 15 => ("KnivesGroundModel", "bitsOf", "[I", true)
  | 16 => ("KnivesGroundModel", "sizeOf", "[I", true)
  | 17 => ("KnivesGroundModel", "sheets", "[I", true)
  | 18 => ("KnivesGroundModel", "moved", "[I", true)
  | 19 => ("KnivesGroundModel", "traced", "[I", true)
  | 20 => ("KnivesGroundModel", "tracedMany", "I", false)
  | 21 => ("KnivesGroundModel", "voiceKind", "I", false)
  | 22 => ("KnivesGroundModel", "voiceN", "I", false)
  | _ => ("KnivesGroundModel", "voiceM", "I", false)
def tyX8 : Nat → FieldType := fun k => match k with
  | 0 => .array .int
  | 1 => .array .int
  | 2 => .array .int
  | 3 => .boolean
  | 4 => .int
  | 5 => .array .int
  | 6 => .int
  | 7 => .int
  | 8 => .int
  | 9 => .int
  | 10 => .int
  | 11 => .boolean
  | 12 => .array .int
  | 13 => .array .int
  | 14 => .array .int
  | 15 => .array .int
  | 16 => .array .int
  | 17 => .array .int
  | 18 => .array .int
  | 19 => .array .int
  | 20 => .int
  | 21 => .int
  | 22 => .int
  | _ => .int
abbrev wsX80 : List Cond := u_ws RX8 TX8 24
theorem nmX8 : ∀ a, a < 24 → ∀ b, b < 24 → a ≠ b → (TX8 a).2.1 ≠ (TX8 b).2.1 := by decide +kernel
theorem tyX8_ok : ∀ k, k < 24 → parseFieldDescriptor (TX8 k).2.2.1 = some (tyX8 k) := by decide +kernel
abbrev cX8_init : ByteArray := prog_10_method_1_code
def yX8_init : MethodName := ⟨RX8, "<init>", "()V"⟩
abbrev cX8_in : ByteArray := prog_10_method_2_code
def yX8_in : MethodName := ⟨RX8, "in", "(III)Z"⟩
abbrev cX8_errs : ByteArray := prog_10_method_3_code
def yX8_errs : MethodName := ⟨RX8, "errs", "(I)I"⟩
abbrev cX8_held : ByteArray := prog_10_method_4_code
def yX8_held : MethodName := ⟨RX8, "held", "(III)I"⟩
abbrev cX8_moveAll : ByteArray := prog_10_method_5_code
def yX8_moveAll : MethodName := ⟨RX8, "moveAll", "([I[I)V"⟩
abbrev cX8_bits : ByteArray := prog_10_method_6_code
def yX8_bits : MethodName := ⟨RX8, "bits", "(I)I"⟩
abbrev cX8_its : ByteArray := prog_10_method_7_code
def yX8_its : MethodName := ⟨RX8, "its", "(II)I"⟩
abbrev cX8_gets : ByteArray := prog_10_method_8_code
def yX8_gets : MethodName := ⟨RX8, "gets", "(III)V"⟩
abbrev cX8_isQuarrel : ByteArray := prog_10_method_9_code
def yX8_isQuarrel : MethodName := ⟨RX8, "isQuarrel", "(I)Z"⟩
abbrev cX8_isArea : ByteArray := prog_10_method_10_code
def yX8_isArea : MethodName := ⟨RX8, "isArea", "(I)Z"⟩
abbrev cX8_becomes : ByteArray := prog_10_method_11_code
def yX8_becomes : MethodName := ⟨RX8, "becomes", "(II)I"⟩
abbrev cX8_set : ByteArray := prog_10_method_12_code
def yX8_set : MethodName := ⟨RX8, "set", "(II)I"⟩
abbrev cX8_inArea : ByteArray := prog_10_method_13_code
def yX8_inArea : MethodName := ⟨RX8, "inArea", "(I)I"⟩
abbrev cX8_quarrel : ByteArray := prog_10_method_14_code
def yX8_quarrel : MethodName := ⟨RX8, "quarrel", "(IIII)I"⟩
abbrev cX8_ofQuarrel : ByteArray := prog_10_method_15_code
def yX8_ofQuarrel : MethodName := ⟨RX8, "ofQuarrel", "(II)I"⟩
abbrev cX8_change : ByteArray := prog_10_method_16_code
def yX8_change : MethodName := ⟨RX8, "change", "(III)I"⟩
abbrev cX8_become : ByteArray := prog_10_method_17_code
def yX8_become : MethodName := ⟨RX8, "become", "(II)I"⟩
abbrev cX8_above : ByteArray := prog_10_method_18_code
def yX8_above : MethodName := ⟨RX8, "above", "(I)I"⟩
abbrev cX8_as : ByteArray := prog_10_method_19_code
def yX8_as : MethodName := ⟨RX8, "as", "(II)I"⟩
abbrev cX8_byteAt : ByteArray := prog_10_method_20_code
def yX8_byteAt : MethodName := ⟨RX8, "byteAt", "(I)I"⟩
abbrev cX8_isDigit : ByteArray := prog_10_method_21_code
def yX8_isDigit : MethodName := ⟨RX8, "isDigit", "(I)Z"⟩
abbrev cX8_adds : ByteArray := prog_10_method_22_code
def yX8_adds : MethodName := ⟨RX8, "adds", "(I)V"⟩
abbrev cX8_number : ByteArray := prog_10_method_23_code
def yX8_number : MethodName := ⟨RX8, "number", "()V"⟩
abbrev cX8_named : ByteArray := prog_10_method_24_code
def yX8_named : MethodName := ⟨RX8, "named", "(I)V"⟩
abbrev cX8_factor : ByteArray := prog_10_method_25_code
def yX8_factor : MethodName := ⟨RX8, "factor", "()V"⟩
abbrev cX8_product : ByteArray := prog_10_method_26_code
def yX8_product : MethodName := ⟨RX8, "product", "()V"⟩
abbrev cX8_sum : ByteArray := prog_10_method_27_code
def yX8_sum : MethodName := ⟨RX8, "sum", "()V"⟩
abbrev cX8_compared : ByteArray := prog_10_method_28_code
def yX8_compared : MethodName := ⟨RX8, "compared", "()V"⟩
abbrev cX8_both : ByteArray := prog_10_method_29_code
def yX8_both : MethodName := ⟨RX8, "both", "()V"⟩
abbrev cX8_whole : ByteArray := prog_10_method_30_code
def yX8_whole : MethodName := ⟨RX8, "whole", "()V"⟩
abbrev cX8_workedOut : ByteArray := prog_10_method_31_code
def yX8_workedOut : MethodName := ⟨RX8, "workedOut", "(III)I"⟩
abbrev cX8_walks : ByteArray := prog_10_method_32_code
def yX8_walks : MethodName := ⟨RX8, "walks", "(IIII)I"⟩
abbrev cX8_lawOf : ByteArray := prog_10_method_33_code
def yX8_lawOf : MethodName := ⟨RX8, "lawOf", "(IIII)I"⟩
abbrev cX8_law : ByteArray := prog_10_method_34_code
def yX8_law : MethodName := ⟨RX8, "law", "(IIII)I"⟩
abbrev cX8_feed : ByteArray := prog_10_method_35_code
def yX8_feed : MethodName := ⟨RX8, "feed", "(JI)I"⟩
abbrev cX8_text : ByteArray := prog_10_method_36_code
def yX8_text : MethodName := ⟨RX8, "text", "(I)I"⟩
abbrev cX8_gains : ByteArray := prog_10_method_37_code
def yX8_gains : MethodName := ⟨RX8, "gains", "(I)I"⟩
abbrev cX8_needs : ByteArray := prog_10_method_38_code
def yX8_needs : MethodName := ⟨RX8, "needs", "(I)I"⟩
abbrev cX8_dulls : ByteArray := prog_10_method_39_code
def yX8_dulls : MethodName := ⟨RX8, "dulls", "(I)I"⟩
abbrev cX8_isOver : ByteArray := prog_10_method_40_code
def yX8_isOver : MethodName := ⟨RX8, "isOver", "(I)Z"⟩
abbrev cX8_isLoose : ByteArray := prog_10_method_41_code
def yX8_isLoose : MethodName := ⟨RX8, "isLoose", "(I)Z"⟩
abbrev cX8_grindsAll : ByteArray := prog_10_method_42_code
def yX8_grindsAll : MethodName := ⟨RX8, "grindsAll", "()V"⟩
abbrev cX8_goesOn : ByteArray := prog_10_method_43_code
def yX8_goesOn : MethodName := ⟨RX8, "goesOn", "(I)V"⟩
abbrev cX8_oneDay : ByteArray := prog_10_method_44_code
def yX8_oneDay : MethodName := ⟨RX8, "oneDay", "(Z)V"⟩
abbrev cX8_passes : ByteArray := prog_10_method_45_code
def yX8_passes : MethodName := ⟨RX8, "passes", "(I)V"⟩
abbrev cX8_overSet : ByteArray := prog_10_method_46_code
def yX8_overSet : MethodName := ⟨RX8, "overSet", "()I"⟩
abbrev cX8_overBehind : ByteArray := prog_10_method_47_code
def yX8_overBehind : MethodName := ⟨RX8, "overBehind", "(I)I"⟩
abbrev cX8_days : ByteArray := prog_10_method_48_code
def yX8_days : MethodName := ⟨RX8, "days", "(I)I"⟩
abbrev cX8_drawn : ByteArray := prog_10_method_49_code
def yX8_drawn : MethodName := ⟨RX8, "drawn", "(I)I"⟩
abbrev cX8_loose : ByteArray := prog_10_method_50_code
def yX8_loose : MethodName := ⟨RX8, "loose", "(I)I"⟩
abbrev cX8_then : ByteArray := prog_10_method_51_code
def yX8_then : MethodName := ⟨RX8, "then", "(III)I"⟩
abbrev cX8_when : ByteArray := prog_10_method_52_code
def yX8_when : MethodName := ⟨RX8, "when", "(I)I"⟩
abbrev cX8_ended : ByteArray := prog_10_method_53_code
def yX8_ended : MethodName := ⟨RX8, "ended", "(I)I"⟩
abbrev cX8_mostOver : ByteArray := prog_10_method_54_code
def yX8_mostOver : MethodName := ⟨RX8, "mostOver", "(III)I"⟩
abbrev cX8_start : ByteArray := prog_10_method_55_code
def yX8_start : MethodName := ⟨RX8, "start", "(II)I"⟩
abbrev cX8_pace : ByteArray := prog_10_method_56_code
def yX8_pace : MethodName := ⟨RX8, "pace", "(II)I"⟩
abbrev cX8_isOverBy : ByteArray := prog_10_method_57_code
def yX8_isOverBy : MethodName := ⟨RX8, "isOverBy", "(III)Z"⟩
abbrev cX8_hand : ByteArray := prog_10_method_58_code
def yX8_hand : MethodName := ⟨RX8, "hand", "(II)I"⟩
abbrev cX8_first : ByteArray := prog_10_method_59_code
def yX8_first : MethodName := ⟨RX8, "first", "(II)I"⟩
abbrev cX8_isSheet : ByteArray := prog_10_method_60_code
def yX8_isSheet : MethodName := ⟨RX8, "isSheet", "(I)Z"⟩
abbrev cX8_areEdgesSo : ByteArray := prog_10_method_61_code
def yX8_areEdgesSo : MethodName := ⟨RX8, "areEdgesSo", "(I)Z"⟩
abbrev cX8_sparks : ByteArray := prog_10_method_62_code
def yX8_sparks : MethodName := ⟨RX8, "sparks", "(II)I"⟩
abbrev cX8_last : ByteArray := prog_10_method_63_code
def yX8_last : MethodName := ⟨RX8, "last", "(I)I"⟩
abbrev cX8_sharp : ByteArray := prog_10_method_64_code
def yX8_sharp : MethodName := ⟨RX8, "sharp", "(II)I"⟩
abbrev cX8_off : ByteArray := prog_10_method_65_code
def yX8_off : MethodName := ⟨RX8, "off", "(I)I"⟩
abbrev cX8_chain : ByteArray := prog_10_method_66_code
def yX8_chain : MethodName := ⟨RX8, "chain", "(I)I"⟩
abbrev cX8_fee : ByteArray := prog_10_method_67_code
def yX8_fee : MethodName := ⟨RX8, "fee", "(I)I"⟩
abbrev cX8_free : ByteArray := prog_10_method_68_code
def yX8_free : MethodName := ⟨RX8, "free", "()I"⟩
abbrev cX8_divisor : ByteArray := prog_10_method_69_code
def yX8_divisor : MethodName := ⟨RX8, "divisor", "(II)I"⟩
abbrev cX8_odds : ByteArray := prog_10_method_70_code
def yX8_odds : MethodName := ⟨RX8, "odds", "(III)I"⟩
abbrev cX8_seed : ByteArray := prog_10_method_71_code
def yX8_seed : MethodName := ⟨RX8, "seed", "(I)I"⟩
abbrev cX8_ran : ByteArray := prog_10_method_72_code
def yX8_ran : MethodName := ⟨RX8, "ran", "(I)V"⟩
abbrev cX8_grindsIn : ByteArray := prog_10_method_73_code
def yX8_grindsIn : MethodName := ⟨RX8, "grindsIn", "(II)I"⟩
abbrev cX8_sparksIn : ByteArray := prog_10_method_74_code
def yX8_sparksIn : MethodName := ⟨RX8, "sparksIn", "(II)I"⟩
abbrev cX8_cutsIn : ByteArray := prog_10_method_75_code
def yX8_cutsIn : MethodName := ⟨RX8, "cutsIn", "(II)I"⟩
abbrev cX8_tellsIn : ByteArray := prog_10_method_76_code
def yX8_tellsIn : MethodName := ⟨RX8, "tellsIn", "(II)I"⟩
abbrev cX8_voice : ByteArray := prog_10_method_77_code
def yX8_voice : MethodName := ⟨RX8, "voice", "(III)I"⟩
abbrev cX8_trace : ByteArray := prog_10_method_78_code
def yX8_trace : MethodName := ⟨RX8, "trace", "(I)I"⟩
abbrev cX8_narrow : ByteArray := prog_10_method_79_code
def yX8_narrow : MethodName := ⟨RX8, "narrow", "(II)I"⟩
abbrev cX8_sheet : ByteArray := prog_10_method_80_code
def yX8_sheet : MethodName := ⟨RX8, "sheet", "(III)I"⟩
abbrev cX8_put : ByteArray := prog_10_method_81_code
def yX8_put : MethodName := ⟨RX8, "put", "(III)I"⟩
abbrev cX8_move : ByteArray := prog_10_method_82_code
def yX8_move : MethodName := ⟨RX8, "move", "(IIIII)I"⟩
abbrev cX8_edges : ByteArray := prog_10_method_83_code
def yX8_edges : MethodName := ⟨RX8, "edges", "(I)I"⟩
abbrev cX8_judge : ByteArray := prog_10_method_84_code
def yX8_judge : MethodName := ⟨RX8, "judge", "(I)I"⟩
abbrev cX8_image : ByteArray := prog_10_method_85_code
def yX8_image : MethodName := ⟨RX8, "image", "()I"⟩
abbrev cX8_restore : ByteArray := prog_10_method_86_code
def yX8_restore : MethodName := ⟨RX8, "restore", "()I"⟩
abbrev cX8_tell : ByteArray := prog_10_method_87_code
def yX8_tell : MethodName := ⟨RX8, "tell", "(I)I"⟩
abbrev cX8_check : ByteArray := prog_10_method_88_code
def yX8_check : MethodName := ⟨RX8, "check", "()I"⟩
abbrev cX8_edgesOfAll : ByteArray := prog_10_method_89_code
def yX8_edgesOfAll : MethodName := ⟨RX8, "edgesOfAll", "()I"⟩
abbrev cX8_count : ByteArray := prog_10_method_90_code
def yX8_count : MethodName := ⟨RX8, "count", "(I)I"⟩
abbrev cX8_told : ByteArray := prog_10_method_91_code
def yX8_told : MethodName := ⟨RX8, "told", "(I)I"⟩
def RJ6 : String := "java/lang/Integer"
def TJ6 : u_T := fun k => match k with
  | _ => ("", "", "", false)
def tyJ6 : Nat → FieldType := fun k => match k with
  | _ => .int
abbrev wsJ60 : List Cond := u_ws RJ6 TJ6 0
theorem nmJ6 : ∀ a, a < 0 → ∀ b, b < 0 → a ≠ b → (TJ6 a).2.1 ≠ (TJ6 b).2.1 := by decide +kernel
theorem tyJ6_ok : ∀ k, k < 0 → parseFieldDescriptor (TJ6 k).2.2.1 = some (tyJ6 k) := by decide +kernel
abbrev cJ6_bitCount_0f7a4 : ByteArray := prog_11_method_49_code
def yJ6_bitCount_0f7a4 : MethodName := ⟨RJ6, "bitCount", "(I)I"⟩
def RJ9 : String := "java/lang/Math"
def TJ9 : u_T := fun k => match k with
  | _ => ("", "", "", false)
def tyJ9 : Nat → FieldType := fun k => match k with
  | _ => .int
abbrev wsJ90 : List Cond := u_ws RJ9 TJ9 0
theorem nmJ9 : ∀ a, a < 0 → ∀ b, b < 0 → a ≠ b → (TJ9 a).2.1 ≠ (TJ9 b).2.1 := by decide +kernel
theorem tyJ9_ok : ∀ k, k < 0 → parseFieldDescriptor (TJ9 k).2.2.1 = some (tyJ9 k) := by decide +kernel
abbrev cJ9_max_7cf53 : ByteArray := prog_12_method_65_code
def yJ9_max_7cf53 : MethodName := ⟨RJ9, "max", "(II)I"⟩
abbrev cJ9_min_7cf53 : ByteArray := prog_12_method_69_code
def yJ9_min_7cf53 : MethodName := ⟨RJ9, "min", "(II)I"⟩
def RJ10 : String := "java/lang/System"
def TJ10 : u_T := fun k => match k with
  | _ => ("", "", "", false)
def tyJ10 : Nat → FieldType := fun k => match k with
  | _ => .int
abbrev wsJ100 : List Cond := u_ws RJ10 TJ10 0
theorem nmJ10 : ∀ a, a < 0 → ∀ b, b < 0 → a ≠ b → (TJ10 a).2.1 ≠ (TJ10 b).2.1 := by decide +kernel
theorem tyJ10_ok : ∀ k, k < 0 → parseFieldDescriptor (TJ10 k).2.2.1 = some (tyJ10 k) := by decide +kernel
def RL : String := "KnivesGroundLaw"
abbrev cL_law : ByteArray := code
def yL_law : MethodName := ⟨RL, "law", "([I)Z"⟩
theorem inJ6 : ∀ w ∈ wsJ60, w ∈ lw_tbl := by decide +kernel
theorem inJ9 : ∀ w ∈ wsJ90, w ∈ lw_tbl := by decide +kernel
theorem inJ10 : ∀ w ∈ wsJ100, w ∈ lw_tbl := by decide +kernel
abbrev vwCl : List vw_C := [(RX0, TX0, 9), (RX1, TX1, 7), (RX2, TX2, 5), (RX3, TX3, 3), (RX4, TX4, 6), (RX5, TX5, 5), (RX6, TX6, 8), (RX7, TX7, 8), (RX8, TX8, 24)]
end
section
def wsL_law_r1 : List Cond := [Cond.classLink RL 7 RX7, Cond.instantiable RX7 8, Cond.initialized RX7, Cond.classLink RL 10 RX8, Cond.instantiable RX8 24, Cond.initialized RX8, Cond.constantLong RL 45 (4294967295), Cond.methodLink RL 9 yX7_init, Cond.instanceMethod yX7_init, Cond.code yX7_init cX7_init 2 none, Cond.methodLink RX7 3 objectInit, Cond.instanceMethod objectInit, Cond.code objectInit ⟨#[0xb1]⟩ 1 none, Cond.classLink RX7 9 RX6, Cond.instantiable RX6 8, Cond.initialized RX6, Cond.fieldLink RX7 12 "KnivesGround" "now" "LKnivesGround$Whole;", Cond.fieldLink RX7 16 "KnivesGround" "kept" "LKnivesGround$Whole;", Cond.classLink RX7 19 RX0, Cond.instantiable RX0 9, Cond.initialized RX0, Cond.fieldLink RX7 31 "KnivesGround" "thought" "LKnivesGround$Ground;", Cond.classLink RX7 35 RX2, Cond.instantiable RX2 5]
def wsL_law_r2 : List Cond := [Cond.initialized RX2, Cond.fieldLink RX7 38 "KnivesGround" "reader" "LKnivesGround$Reader;", Cond.classLink RX7 42 RX5, Cond.instantiable RX5 5, Cond.initialized RX5, Cond.fieldLink RX7 45 "KnivesGround" "voices" "LKnivesGround$Voices;", Cond.classLink RX7 49 RX3, Cond.fieldLink RX7 51 "KnivesGround" "sheets" "[LKnivesGround$Sheet;", Cond.arrayClass .int, Cond.fieldLink RX7 55 "KnivesGround" "refused" "[I", Cond.instantiable RX3 3, Cond.initialized RX3, Cond.instanceMethod yX6_init, Cond.code yX6_init cX6_init 1 none, Cond.methodLink RX6 3 objectInit, Cond.classLink RX6 9 RX4, Cond.instantiable RX4 6, Cond.initialized RX4, Cond.fieldLink RX6 12 "KnivesGround$Whole" "grinds" "LKnivesGround$Text;", Cond.fieldLink RX6 18 "KnivesGround$Whole" "harms" "LKnivesGround$Text;", Cond.classLink RX6 21 RX0, Cond.fieldLink RX6 26 "KnivesGround$Whole" "ground" "LKnivesGround$Ground;", Cond.fieldLink RX6 30 "KnivesGround$Whole" "tape" "[I", Cond.fieldLink RX6 34 "KnivesGround$Whole" "waiting" "[I"]
def wsL_law_r3 : List Cond := [Cond.fieldLink RX6 37 "KnivesGround$Whole" "z" "I", Cond.instanceMethod yX4_init, Cond.code yX4_init cX4_init 1 none, Cond.methodLink RX4 3 objectInit, Cond.fieldLink RX4 9 "KnivesGround$Text" "signs" "[I", Cond.fieldLink RX4 15 "KnivesGround$Text" "lefts" "[I", Cond.fieldLink RX4 18 "KnivesGround$Text" "rights" "[I", Cond.fieldLink RX4 21 "KnivesGround$Text" "values" "[I", Cond.instanceMethod yX0_init, Cond.code yX0_init cX0_init 4 none, Cond.methodLink RX0 3 objectInit, Cond.classLink RX0 9 RX1, Cond.fieldLink RX0 11 "KnivesGround$Ground" "ones" "[LKnivesGround$One;", Cond.fieldLink RX0 17 "KnivesGround$Ground" "step" "I", Cond.fieldLink RX0 21 "KnivesGround$Ground" "grinds" "LKnivesGround$Text;", Cond.fieldLink RX0 25 "KnivesGround$Ground" "harms" "LKnivesGround$Text;", Cond.instantiable RX1 7, Cond.initialized RX1, Cond.instanceMethod yX1_init, Cond.code yX1_init cX1_init 1 none, Cond.methodLink RX1 3 objectInit, Cond.instanceMethod yX4_clear, Cond.selects RX4 yX4_clear yX4_clear, Cond.code yX4_clear cX4_clear 2 none]
def wsL_law_r4 : List Cond := [Cond.fieldLink RX4 24 "KnivesGround$Text" "use" "I", Cond.fieldLink RX4 28 "KnivesGround$Text" "size" "I", Cond.instanceMethod yX2_init, Cond.code yX2_init cX2_init 1 none, Cond.methodLink RX2 3 objectInit, Cond.classLink RX2 9 RX4, Cond.fieldLink RX2 12 "KnivesGround$Reader" "text" "LKnivesGround$Text;", Cond.fieldLink RX2 18 "KnivesGround$Reader" "bytes" "[I", Cond.instanceMethod yX5_init, Cond.code yX5_init cX5_init 1 none, Cond.methodLink RX5 3 objectInit, Cond.fieldLink RX5 9 "KnivesGround$Voices" "trace" "[I", Cond.instanceMethod yX3_init, Cond.code yX3_init cX3_init 1 none, Cond.methodLink RX3 3 objectInit, Cond.fieldLink RX3 9 "KnivesGround$Sheet" "numbers" "[I", Cond.methodLink RL 12 yX8_init, Cond.instanceMethod yX8_init, Cond.code yX8_init cX8_init 1 none, Cond.methodLink RX8 1 objectInit, Cond.fieldLink RX8 7 "KnivesGroundModel" "row" "[I", Cond.fieldLink RX8 13 "KnivesGroundModel" "kept" "[I", Cond.fieldLink RX8 16 "KnivesGroundModel" "tried" "[I", Cond.fieldLink RX8 19 "KnivesGroundModel" "found" "[I"]
def wsL_law_r5 : List Cond := [Cond.fieldLink RX8 22 "KnivesGroundModel" "made" "[I", Cond.fieldLink RX8 25 "KnivesGroundModel" "pile" "[I", Cond.fieldLink RX8 28 "KnivesGroundModel" "names" "[I", Cond.fieldLink RX8 31 "KnivesGroundModel" "bitsOf" "[I", Cond.fieldLink RX8 34 "KnivesGroundModel" "sizeOf" "[I", Cond.fieldLink RX8 37 "KnivesGroundModel" "sheets" "[I", Cond.fieldLink RX8 40 "KnivesGroundModel" "moved" "[I", Cond.fieldLink RX8 43 "KnivesGroundModel" "traced" "[I", Cond.methodLink RL 13 yX7_set, Cond.instanceMethod yX7_set, Cond.selects RX7 yX7_set yX7_set, Cond.code yX7_set cX7_set 3 (some .int), Cond.constant RX7 68 (-1000000001), Cond.methodLink RX7 60 yX7_isWithin, Cond.static yX7_isWithin, Cond.code yX7_isWithin cX7_isWithin 3 (some .boolean), Cond.methodLink RX7 64 yX7_mostOfGrinder, Cond.static yX7_mostOfGrinder, Cond.code yX7_mostOfGrinder cX7_mostOfGrinder 1 (some .int), Cond.constant RX7 314 (99999), Cond.methodLink RX7 69 yX7_refuse, Cond.instanceMethod yX7_refuse, Cond.selects RX7 yX7_refuse yX7_refuse, Cond.code yX7_refuse cX7_refuse 2 (some .int)]
def wsL_law_r6 : List Cond := [Cond.constant RX7 313 (-1000000000), Cond.instanceMethod yX0_setGrinder, Cond.selects RX0 yX0_setGrinder yX0_setGrinder, Cond.code yX0_setGrinder cX0_setGrinder 4 (some .int), Cond.fieldLink RX0 36 "KnivesGround$Ground" "grinder" "I", Cond.fieldLink RX0 42 "KnivesGround$Ground" "harm" "I", Cond.fieldLink RX0 45 "KnivesGround$Ground" "pence" "I", Cond.methodLink RL 17 yX8_set, Cond.instanceMethod yX8_set, Cond.selects RX8 yX8_set yX8_set, Cond.code yX8_set cX8_set 4 (some .int), Cond.constant RX8 55 (99999), Cond.constant RX8 60 (-1000000001), Cond.methodLink RX8 47 yX8_in, Cond.static yX8_in, Cond.code yX8_in cX8_in 3 (some .boolean), Cond.methodLink RX8 51 yX8_isArea, Cond.static yX8_isArea, Cond.code yX8_isArea cX8_isArea 1 (some .boolean), Cond.methodLink RX8 56 yX8_becomes, Cond.instanceMethod yX8_becomes, Cond.selects RX8 yX8_becomes yX8_becomes, Cond.code yX8_becomes cX8_becomes 4 (some .int), Cond.methodLink RX8 61 yX8_errs]
def wsL_law_r7 : List Cond := [Cond.instanceMethod yX8_errs, Cond.selects RX8 yX8_errs yX8_errs, Cond.code yX8_errs cX8_errs 2 (some .int), Cond.constant RX8 46 (-1000000000), Cond.methodLink RL 18 yX7_inArea, Cond.instanceMethod yX7_inArea, Cond.selects RX7 yX7_inArea yX7_inArea, Cond.code yX7_inArea cX7_inArea 2 (some .int), Cond.instanceMethod yX0_setInArea, Cond.selects RX0 yX0_setInArea yX0_setInArea, Cond.code yX0_setInArea cX0_setInArea 4 (some .int), Cond.fieldLink RX0 29 "KnivesGround$Ground" "many" "I", Cond.methodLink RL 22 yX8_inArea, Cond.instanceMethod yX8_inArea, Cond.selects RX8 yX8_inArea yX8_inArea, Cond.code yX8_inArea cX8_inArea 4 (some .int), Cond.methodLink RX8 65 yX8_its, Cond.instanceMethod yX8_its, Cond.selects RX8 yX8_its yX8_its, Cond.code yX8_its cX8_its 3 (some .int), Cond.methodLink RL 23 yX7_quarrel, Cond.instanceMethod yX7_quarrel, Cond.selects RX7 yX7_quarrel yX7_quarrel, Cond.code yX7_quarrel cX7_quarrel 7 (some .int)]
def wsL_law_r8 : List Cond := [Cond.constant RX7 90 (-1000000004), Cond.methodLink RX7 82 yX7_isKindAndM, Cond.static yX7_isKindAndM, Cond.code yX7_isKindAndM cX7_isKindAndM 1 (some .boolean), Cond.instanceMethod yX1_turnInto, Cond.selects RX1 yX1_turnInto yX1_turnInto, Cond.code yX1_turnInto cX1_turnInto 2 none, Cond.fieldLink RX1 9 "KnivesGround$One" "kind" "I", Cond.fieldLink RX1 15 "KnivesGround$One" "m" "I", Cond.methodLink RL 27 yX8_quarrel, Cond.instanceMethod yX8_quarrel, Cond.selects RX8 yX8_quarrel yX8_quarrel, Cond.code yX8_quarrel cX8_quarrel 6 (some .int), Cond.constant RX8 68 (-1000000004), Cond.methodLink RX8 69 yX8_gets, Cond.instanceMethod yX8_gets, Cond.selects RX8 yX8_gets yX8_gets, Cond.code yX8_gets cX8_gets 4 none, Cond.methodLink RL 28 yX7_ofQuarrel, Cond.instanceMethod yX7_ofQuarrel, Cond.selects RX7 yX7_ofQuarrel yX7_ofQuarrel, Cond.code yX7_ofQuarrel cX7_ofQuarrel 4 (some .int), Cond.methodLink RX7 117 yX7_isQuarrel, Cond.instanceMethod yX7_isQuarrel]
def wsL_law_r9 : List Cond := [Cond.selects RX7 yX7_isQuarrel yX7_isQuarrel, Cond.code yX7_isQuarrel cX7_isQuarrel 2 (some .boolean), Cond.instanceMethod yX0_gainsOf, Cond.selects RX0 yX0_gainsOf yX0_gainsOf, Cond.code yX0_gainsOf cX0_gainsOf 2 (some .int), Cond.fieldLink RX0 39 "KnivesGround$Ground" "day" "I", Cond.instanceMethod yX4_gives, Cond.selects RX4 yX4_gives yX4_gives, Cond.code yX4_gives cX4_gives 5 (some .int), Cond.methodLink RX4 41 Lib.Math.min.name, Cond.static Lib.Math.min.name, Cond.initialized "java/lang/Math", Cond.code Lib.Math.min.name Lib.Math.min.code 2 (some .int), Cond.methodLink RX4 47 Lib.Math.max.name, Cond.static Lib.Math.max.name, Cond.code Lib.Math.max.name Lib.Math.max.code 2 (some .int), Cond.methodLink RX4 37 yX4_workedOut, Cond.instanceMethod yX4_workedOut, Cond.selects RX4 yX4_workedOut yX4_workedOut, Cond.code yX4_workedOut cX4_workedOut 6 (some .int), Cond.methodLink RX4 50 yX4_joined, Cond.static yX4_joined, Cond.code yX4_joined cX4_joined 3 (some .int), Cond.instanceMethod yX1_gains]
def wsL_law_r10 : List Cond := [Cond.selects RX1 yX1_gains yX1_gains, Cond.code yX1_gains cX1_gains 3 (some .int), Cond.fieldLink RX1 27 "KnivesGround$One" "age" "I", Cond.methodLink RX1 38 Lib.Math.max.name, Cond.instanceMethod yX1_needs, Cond.selects RX1 yX1_needs yX1_needs, Cond.code yX1_needs cX1_needs 1 (some .int), Cond.instanceMethod yX1_dulls, Cond.selects RX1 yX1_dulls yX1_dulls, Cond.code yX1_dulls cX1_dulls 1 (some .int), Cond.methodLink RL 31 yX8_ofQuarrel, Cond.instanceMethod yX8_ofQuarrel, Cond.selects RX8 yX8_ofQuarrel yX8_ofQuarrel, Cond.code yX8_ofQuarrel cX8_ofQuarrel 3 (some .int), Cond.methodLink RX8 73 yX8_isQuarrel, Cond.instanceMethod yX8_isQuarrel, Cond.selects RX8 yX8_isQuarrel yX8_isQuarrel, Cond.code yX8_isQuarrel cX8_isQuarrel 2 (some .boolean), Cond.methodLink RX8 76 yX8_gains, Cond.instanceMethod yX8_gains, Cond.selects RX8 yX8_gains yX8_gains, Cond.code yX8_gains cX8_gains 4 (some .int), Cond.methodLink RX8 154 yX8_lawOf, Cond.instanceMethod yX8_lawOf]
def wsL_law_r11 : List Cond := [Cond.selects RX8 yX8_lawOf yX8_lawOf, Cond.code yX8_lawOf cX8_lawOf 5 (some .int), Cond.methodLink RX8 147 yX8_walks, Cond.instanceMethod yX8_walks, Cond.selects RX8 yX8_walks yX8_walks, Cond.code yX8_walks cX8_walks 9 (some .int), Cond.methodLink RX8 143 yX8_workedOut, Cond.static yX8_workedOut, Cond.code yX8_workedOut cX8_workedOut 3 (some .int), Cond.methodLink RX8 151 yX8_held, Cond.static yX8_held, Cond.code yX8_held cX8_held 3 (some .int), Cond.methodLink RX8 79 yX8_needs, Cond.instanceMethod yX8_needs, Cond.selects RX8 yX8_needs yX8_needs, Cond.code yX8_needs cX8_needs 3 (some .int), Cond.methodLink RX8 82 yX8_dulls, Cond.instanceMethod yX8_dulls, Cond.selects RX8 yX8_dulls yX8_dulls, Cond.code yX8_dulls cX8_dulls 2 (some .int), Cond.methodLink RL 32 yX7_change, Cond.instanceMethod yX7_change, Cond.selects RX7 yX7_change yX7_change, Cond.code yX7_change cX7_change 4 (some .int)]
def wsL_law_r12 : List Cond := [Cond.methodLink RX7 137 yX7_mostOfQuarrel, Cond.static yX7_mostOfQuarrel, Cond.code yX7_mostOfQuarrel cX7_mostOfQuarrel 1 (some .int), Cond.instanceMethod yX1_changeTo, Cond.selects RX1 yX1_changeTo yX1_changeTo, Cond.code yX1_changeTo cX1_changeTo 4 (some .int), Cond.fieldLink RX1 18 "KnivesGround$One" "area" "I", Cond.fieldLink RX1 21 "KnivesGround$One" "edge" "I", Cond.fieldLink RX1 30 "KnivesGround$One" "ended" "Z", Cond.methodLink RL 36 yX8_change, Cond.instanceMethod yX8_change, Cond.selects RX8 yX8_change yX8_change, Cond.code yX8_change cX8_change 5 (some .int), Cond.methodLink RL 37 yX7_become, Cond.instanceMethod yX7_become, Cond.selects RX7 yX7_become yX7_become, Cond.code yX7_become cX7_become 5 (some .int), Cond.methodLink RL 40 yX8_become, Cond.instanceMethod yX8_become, Cond.selects RX8 yX8_become yX8_become, Cond.code yX8_become cX8_become 3 (some .int), Cond.methodLink RL 41 yX7_as, Cond.instanceMethod yX7_as, Cond.selects RX7 yX7_as yX7_as]
def wsL_law_r13 : List Cond := [Cond.code yX7_as cX7_as 4 (some .int), Cond.constant RX7 146 (-1000000005), Cond.instanceMethod yX1_isOfKind, Cond.selects RX1 yX1_isOfKind yX1_isOfKind, Cond.code yX1_isOfKind cX1_isOfKind 2 (some .boolean), Cond.methodLink RL 44 yX8_as, Cond.instanceMethod yX8_as, Cond.selects RX8 yX8_as yX8_as, Cond.code yX8_as cX8_as 4 (some .int), Cond.constant RX8 88 (-1000000005), Cond.methodLink RX8 85 yX8_above, Cond.static yX8_above, Cond.code yX8_above cX8_above 1 (some .int), Cond.methodLink RL 47 yX7_feed, Cond.instanceMethod yX7_feed, Cond.selects RX7 yX7_feed yX7_feed, Cond.code yX7_feed cX7_feed 5 (some .int), Cond.methodLink RL 51 yX8_feed, Cond.instanceMethod yX8_feed, Cond.selects RX8 yX8_feed yX8_feed, Cond.code yX8_feed cX8_feed 5 (some .int), Cond.constantLong RX8 157 (255), Cond.methodLink RL 52 yX7_text, Cond.instanceMethod yX7_text]
def wsL_law_r14 : List Cond := [Cond.selects RX7 yX7_text yX7_text, Cond.code yX7_text cX7_text 3 (some .int), Cond.instanceMethod yX2_read, Cond.selects RX2 yX2_read yX2_read, Cond.code yX2_read cX2_read 4 (some .int), Cond.methodLink RX2 22 Lib.Math.min.name, Cond.fieldLink RX2 28 "KnivesGround$Reader" "many" "I", Cond.methodLink RX2 32 arraycopyName, Cond.native arraycopyName, Cond.static arraycopyName, Cond.initialized "java/lang/System", Cond.fieldLink RX2 38 "KnivesGround$Reader" "place" "I", Cond.fieldLink RX2 41 "KnivesGround$Reader" "fault" "I", Cond.methodLink RX2 48 yX2_readLevel, Cond.instanceMethod yX2_readLevel, Cond.selects RX2 yX2_readLevel yX2_readLevel, Cond.code yX2_readLevel cX2_readLevel 8 (some .int), Cond.methodLink RX2 51 yX2_readInnermost, Cond.instanceMethod yX2_readInnermost, Cond.selects RX2 yX2_readInnermost yX2_readInnermost, Cond.methodLink RX2 55 yX2_next, Cond.instanceMethod yX2_next, Cond.selects RX2 yX2_next yX2_next, Cond.code yX2_next cX2_next 1 (some .int)]
def wsL_law_r15 : List Cond := [Cond.methodLink RX2 59 yX2_levelOf, Cond.static yX2_levelOf, Cond.code yX2_levelOf cX2_levelOf 1 (some .int), Cond.instanceMethod yX4_add, Cond.selects RX4 yX4_add yX4_add, Cond.code yX4_add cX4_add 4 (some .int), Cond.code yX2_readBrackets cX2_readBrackets 3 (some .int), Cond.methodLink RX2 82 yX2_stop, Cond.instanceMethod yX2_stop, Cond.selects RX2 yX2_stop yX2_stop, Cond.code yX2_stop cX2_stop 1 (some .int), Cond.code yX2_readInnermost cX2_readInnermost 3 (some .int), Cond.methodLink RX2 66 yX2_isDigit, Cond.static yX2_isDigit, Cond.code yX2_isDigit cX2_isDigit 1 (some .boolean), Cond.methodLink RX2 70 yX2_readNumber, Cond.instanceMethod yX2_readNumber, Cond.selects RX2 yX2_readNumber yX2_readNumber, Cond.code yX2_readNumber cX2_readNumber 3 (some .int), Cond.methodLink RX2 73 yX2_nameOf, Cond.instanceMethod yX2_nameOf, Cond.selects RX2 yX2_nameOf yX2_nameOf, Cond.code yX2_nameOf cX2_nameOf 2 (some .int), Cond.methodLink RX2 76 yX2_readNot]
def wsL_law_r16 : List Cond := [Cond.instanceMethod yX2_readNot, Cond.selects RX2 yX2_readNot yX2_readNot, Cond.methodLink RX2 79 yX2_readBrackets, Cond.instanceMethod yX2_readBrackets, Cond.selects RX2 yX2_readBrackets yX2_readBrackets, Cond.code yX2_readNot cX2_readNot 3 (some .int), Cond.instanceMethod yX6_textOf, Cond.selects RX6 yX6_textOf yX6_textOf, Cond.code yX6_textOf cX6_textOf 2 (some (.object "KnivesGround$Text")), Cond.instanceMethod yX4_copyFrom, Cond.selects RX4 yX4_copyFrom yX4_copyFrom, Cond.code yX4_copyFrom cX4_copyFrom 2 none, Cond.methodLink RX4 31 arraycopyName, Cond.methodLink RL 55 yX8_text, Cond.instanceMethod yX8_text, Cond.selects RX8 yX8_text yX8_text, Cond.code yX8_text cX8_text 3 (some .int), Cond.fieldLink RX8 113 "KnivesGroundModel" "use" "I", Cond.fieldLink RX8 100 "KnivesGroundModel" "at" "I", Cond.fieldLink RX8 89 "KnivesGroundModel" "end" "I", Cond.fieldLink RX8 122 "KnivesGroundModel" "open" "I", Cond.fieldLink RX8 97 "KnivesGroundModel" "steps" "I", Cond.fieldLink RX8 93 "KnivesGroundModel" "good" "Z", Cond.methodLink RX8 128 yX8_whole]
def wsL_law_r17 : List Cond := [Cond.instanceMethod yX8_whole, Cond.selects RX8 yX8_whole yX8_whole, Cond.code yX8_whole cX8_whole 1 none, Cond.methodLink RX8 140 yX8_both, Cond.instanceMethod yX8_both, Cond.selects RX8 yX8_both yX8_both, Cond.methodLink RX8 103 yX8_byteAt, Cond.instanceMethod yX8_byteAt, Cond.selects RX8 yX8_byteAt yX8_byteAt, Cond.code yX8_byteAt cX8_byteAt 2 (some .int), Cond.methodLink RX8 109 yX8_adds, Cond.instanceMethod yX8_adds, Cond.selects RX8 yX8_adds yX8_adds, Cond.code yX8_adds cX8_adds 2 none, Cond.code yX8_both cX8_both 1 none, Cond.methodLink RX8 137 yX8_compared, Cond.instanceMethod yX8_compared, Cond.selects RX8 yX8_compared yX8_compared, Cond.code yX8_compared cX8_compared 2 none, Cond.methodLink RX8 134 yX8_sum, Cond.instanceMethod yX8_sum, Cond.selects RX8 yX8_sum yX8_sum, Cond.code yX8_factor cX8_factor 2 none, Cond.methodLink RX8 106 yX8_isDigit]
def wsL_law_r18 : List Cond := [Cond.static yX8_isDigit, Cond.code yX8_isDigit cX8_isDigit 1 (some .boolean), Cond.methodLink RX8 116 yX8_number, Cond.instanceMethod yX8_number, Cond.selects RX8 yX8_number yX8_number, Cond.code yX8_number cX8_number 3 none, Cond.methodLink RX8 119 yX8_named, Cond.instanceMethod yX8_named, Cond.selects RX8 yX8_named yX8_named, Cond.code yX8_named cX8_named 5 none, Cond.methodLink RX8 125 yX8_factor, Cond.instanceMethod yX8_factor, Cond.selects RX8 yX8_factor yX8_factor, Cond.code yX8_product cX8_product 2 none, Cond.code yX8_sum cX8_sum 2 none, Cond.methodLink RX8 131 yX8_product, Cond.instanceMethod yX8_product, Cond.selects RX8 yX8_product yX8_product, Cond.methodLink RL 56 yX7_law, Cond.instanceMethod yX7_law, Cond.selects RX7 yX7_law yX7_law, Cond.code yX7_law cX7_law 5 (some .int), Cond.methodLink RL 59 yX8_law, Cond.instanceMethod yX8_law]
def wsL_law_r19 : List Cond := [Cond.selects RX8 yX8_law yX8_law, Cond.code yX8_law cX8_law 5 (some .int), Cond.methodLink RL 60 yX7_days, Cond.instanceMethod yX7_days, Cond.selects RX7 yX7_days yX7_days, Cond.code yX7_days cX7_days 3 (some .int), Cond.constant RX7 177 (-1000000003), Cond.instanceMethod yX0_passDay, Cond.selects RX0 yX0_passDay yX0_passDay, Cond.code yX0_passDay cX0_passDay 2 none, Cond.methodLink RX0 48 yX0_grindArea, Cond.instanceMethod yX0_grindArea, Cond.selects RX0 yX0_grindArea yX0_grindArea, Cond.code yX0_grindArea cX0_grindArea 3 none, Cond.methodLink RX0 72 Lib.Math.min.name, Cond.constant RX0 78 (99999), Cond.methodLink RX0 68 yX0_gainsOf, Cond.methodLink RX0 51 yX0_restDay, Cond.instanceMethod yX0_restDay, Cond.selects RX0 yX0_restDay yX0_restDay, Cond.code yX0_restDay cX0_restDay 2 none, Cond.methodLink RX0 55 yX0_endOrDull, Cond.instanceMethod yX0_endOrDull, Cond.selects RX0 yX0_endOrDull yX0_endOrDull]
def wsL_law_r20 : List Cond := [Cond.code yX0_endOrDull cX0_endOrDull 4 none, Cond.methodLink RX0 102 Lib.Math.max.name, Cond.methodLink RX0 83 yX0_isFree, Cond.instanceMethod yX0_isFree, Cond.selects RX0 yX0_isFree yX0_isFree, Cond.code yX0_isFree cX0_isFree 2 (some .boolean), Cond.instanceMethod yX0_endedMany, Cond.selects RX0 yX0_endedMany yX0_endedMany, Cond.code yX0_endedMany cX0_endedMany 1 (some .int), Cond.methodLink RX0 122 yX0_setEnded, Cond.instanceMethod yX0_setEnded, Cond.selects RX0 yX0_setEnded yX0_setEnded, Cond.code yX0_setEnded cX0_setEnded 3 (some .int), Cond.methodLink RX0 125 yJ6_bitCount_0f7a4, Cond.static yJ6_bitCount_0f7a4, Cond.initialized RJ6, Cond.code yJ6_bitCount_0f7a4 cJ6_bitCount_0f7a4 1 (some .int), Cond.constant RJ6 265 (1431655765), Cond.constant RJ6 266 (858993459), Cond.constant RJ6 267 (252645135), Cond.methodLink RL 63 yX8_days, Cond.instanceMethod yX8_days, Cond.selects RX8 yX8_days yX8_days, Cond.code yX8_days cX8_days 2 (some .int)]
def wsL_law_r21 : List Cond := [Cond.constant RX8 186 (-1000000003), Cond.methodLink RX8 179 yX8_passes, Cond.instanceMethod yX8_passes, Cond.selects RX8 yX8_passes yX8_passes, Cond.code yX8_passes cX8_passes 3 none, Cond.methodLink RX8 171 yX8_oneDay, Cond.instanceMethod yX8_oneDay, Cond.selects RX8 yX8_oneDay yX8_oneDay, Cond.code yX8_oneDay cX8_oneDay 3 none, Cond.methodLink RX8 165 yX8_grindsAll, Cond.instanceMethod yX8_grindsAll, Cond.selects RX8 yX8_grindsAll yX8_grindsAll, Cond.code yX8_grindsAll cX8_grindsAll 2 none, Cond.methodLink RX8 159 yX8_isOver, Cond.instanceMethod yX8_isOver, Cond.selects RX8 yX8_isOver yX8_isOver, Cond.code yX8_isOver cX8_isOver 2 (some .boolean), Cond.methodLink RX8 168 yX8_goesOn, Cond.instanceMethod yX8_goesOn, Cond.selects RX8 yX8_goesOn yX8_goesOn, Cond.code yX8_goesOn cX8_goesOn 2 none, Cond.methodLink RX8 162 yX8_isLoose, Cond.instanceMethod yX8_isLoose, Cond.selects RX8 yX8_isLoose yX8_isLoose]
def wsL_law_r22 : List Cond := [Cond.code yX8_isLoose cX8_isLoose 2 (some .boolean), Cond.methodLink RX8 182 yX8_overSet, Cond.instanceMethod yX8_overSet, Cond.selects RX8 yX8_overSet yX8_overSet, Cond.code yX8_overSet cX8_overSet 3 (some .int), Cond.methodLink RX8 187 yX8_bits, Cond.static yX8_bits, Cond.code yX8_bits cX8_bits 3 (some .int), Cond.methodLink RL 64 yX7_loose, Cond.instanceMethod yX7_loose, Cond.selects RX7 yX7_loose yX7_loose, Cond.code yX7_loose cX7_loose 3 (some .int), Cond.instanceMethod yX6_draw, Cond.selects RX6 yX6_draw yX6_draw, Cond.code yX6_draw cX6_draw 1 (some .int), Cond.constant RX6 45 (1103515245), Cond.methodLink RL 67 yX8_loose, Cond.instanceMethod yX8_loose, Cond.selects RX8 yX8_loose yX8_loose, Cond.code yX8_loose cX8_loose 3 (some .int), Cond.methodLink RX8 191 yX8_drawn, Cond.instanceMethod yX8_drawn, Cond.selects RX8 yX8_drawn yX8_drawn, Cond.code yX8_drawn cX8_drawn 2 (some .int)]
def wsL_law_r23 : List Cond := [Cond.constant RX8 190 (1103515245), Cond.methodLink RL 68 yX7_then, Cond.instanceMethod yX7_then, Cond.selects RX7 yX7_then yX7_then, Cond.code yX7_then cX7_then 5 (some .int), Cond.methodLink RX7 191 yX7_think, Cond.instanceMethod yX7_think, Cond.selects RX7 yX7_think yX7_think, Cond.code yX7_think cX7_think 1 none, Cond.instanceMethod yX0_copyFrom, Cond.selects RX0 yX0_copyFrom yX0_copyFrom, Cond.code yX0_copyFrom cX0_copyFrom 3 none, Cond.instanceMethod yX1_copyFrom, Cond.selects RX1 yX1_copyFrom yX1_copyFrom, Cond.code yX1_copyFrom cX1_copyFrom 2 none, Cond.fieldLink RX1 24 "KnivesGround$One" "on" "I", Cond.methodLink RX7 194 yX7_thinkDays, Cond.instanceMethod yX7_thinkDays, Cond.selects RX7 yX7_thinkDays yX7_thinkDays, Cond.code yX7_thinkDays cX7_thinkDays 3 none, Cond.methodLink RL 71 yX8_then, Cond.instanceMethod yX8_then, Cond.selects RX8 yX8_then yX8_then, Cond.code yX8_then cX8_then 5 (some .int)]
def wsL_law_r24 : List Cond := [Cond.methodLink RX8 175 yX8_moveAll, Cond.instanceMethod yX8_moveAll, Cond.selects RX8 yX8_moveAll yX8_moveAll, Cond.code yX8_moveAll cX8_moveAll 4 none, Cond.methodLink RL 72 yX7_when, Cond.instanceMethod yX7_when, Cond.selects RX7 yX7_when yX7_when, Cond.code yX7_when cX7_when 3 (some .int), Cond.constant RX7 197 (-1000000002), Cond.methodLink RL 75 yX8_when, Cond.instanceMethod yX8_when, Cond.selects RX8 yX8_when yX8_when, Cond.code yX8_when cX8_when 3 (some .int), Cond.constant RX8 194 (-1000000002), Cond.methodLink RL 76 yX7_ended, Cond.instanceMethod yX7_ended, Cond.selects RX7 yX7_ended yX7_ended, Cond.code yX7_ended cX7_ended 2 (some .int), Cond.methodLink RL 79 yX8_ended, Cond.instanceMethod yX8_ended, Cond.selects RX8 yX8_ended yX8_ended, Cond.code yX8_ended cX8_ended 2 (some .int), Cond.methodLink RX8 195 yX8_overBehind, Cond.instanceMethod yX8_overBehind]
def wsL_law_r25 : List Cond := [Cond.selects RX8 yX8_overBehind yX8_overBehind, Cond.code yX8_overBehind cX8_overBehind 3 (some .int), Cond.methodLink RL 80 yX7_start, Cond.instanceMethod yX7_start, Cond.selects RX7 yX7_start yX7_start, Cond.code yX7_start cX7_start 6 (some .int), Cond.methodLink RL 83 yX8_start, Cond.instanceMethod yX8_start, Cond.selects RX8 yX8_start yX8_start, Cond.code yX8_start cX8_start 3 (some .int), Cond.methodLink RX8 198 yX8_mostOver, Cond.instanceMethod yX8_mostOver, Cond.selects RX8 yX8_mostOver yX8_mostOver, Cond.code yX8_mostOver cX8_mostOver 9 (some .int), Cond.methodLink RL 84 yX7_pace, Cond.instanceMethod yX7_pace, Cond.selects RX7 yX7_pace yX7_pace, Cond.code yX7_pace cX7_pace 6 (some .int), Cond.methodLink RL 87 yX8_pace, Cond.instanceMethod yX8_pace, Cond.selects RX8 yX8_pace yX8_pace, Cond.code yX8_pace cX8_pace 3 (some .int), Cond.methodLink RL 88 yX7_hand, Cond.instanceMethod yX7_hand]
def wsL_law_r26 : List Cond := [Cond.selects RX7 yX7_hand yX7_hand, Cond.code yX7_hand cX7_hand 7 (some .int), Cond.instanceMethod yX0_setItHangsOn, Cond.selects RX0 yX0_setItHangsOn yX0_setItHangsOn, Cond.code yX0_setItHangsOn cX0_setItHangsOn 4 (some .int), Cond.methodLink RX7 207 yJ6_bitCount_0f7a4, Cond.instanceMethod yX0_sharpen, Cond.selects RX0 yX0_sharpen yX0_sharpen, Cond.code yX0_sharpen cX0_sharpen 3 none, Cond.methodLink RX7 215 yX7_endsInThought, Cond.instanceMethod yX7_endsInThought, Cond.selects RX7 yX7_endsInThought yX7_endsInThought, Cond.code yX7_endsInThought cX7_endsInThought 5 (some .boolean), Cond.methodLink RL 91 yX8_hand, Cond.instanceMethod yX8_hand, Cond.selects RX8 yX8_hand yX8_hand, Cond.code yX8_hand cX8_hand 6 (some .int), Cond.methodLink RX8 201 yX8_isOverBy, Cond.instanceMethod yX8_isOverBy, Cond.selects RX8 yX8_isOverBy yX8_isOverBy, Cond.code yX8_isOverBy cX8_isOverBy 5 (some .boolean), Cond.methodLink RL 92 yX7_first, Cond.instanceMethod yX7_first, Cond.selects RX7 yX7_first yX7_first]
def wsL_law_r27 : List Cond := [Cond.code yX7_first cX7_first 6 (some .int), Cond.methodLink RX7 219 yX7_thinkDaysWithHarm, Cond.instanceMethod yX7_thinkDaysWithHarm, Cond.selects RX7 yX7_thinkDaysWithHarm yX7_thinkDaysWithHarm, Cond.code yX7_thinkDaysWithHarm cX7_thinkDaysWithHarm 3 none, Cond.methodLink RL 95 yX8_first, Cond.instanceMethod yX8_first, Cond.selects RX8 yX8_first yX8_first, Cond.code yX8_first cX8_first 7 (some .int), Cond.constant RX8 204 (100000), Cond.methodLink RL 96 yX7_sparks, Cond.instanceMethod yX7_sparks, Cond.selects RX7 yX7_sparks yX7_sparks, Cond.code yX7_sparks cX7_sparks 6 (some .int), Cond.methodLink RX7 225 yX7_isSheet, Cond.static yX7_isSheet, Cond.code yX7_isSheet cX7_isSheet 1 (some .boolean), Cond.instanceMethod yX3_isMissing, Cond.selects RX3 yX3_isMissing yX3_isMissing, Cond.code yX3_isMissing cX3_isMissing 1 (some .boolean), Cond.fieldLink RX3 15 "KnivesGround$Sheet" "bits" "I", Cond.instanceMethod yX0_hasEdges, Cond.selects RX0 yX0_hasEdges yX0_hasEdges, Cond.code yX0_hasEdges cX0_hasEdges 3 (some .boolean)]
def wsL_law_r28 : List Cond := [Cond.methodLink RL 99 yX8_sparks, Cond.instanceMethod yX8_sparks, Cond.selects RX8 yX8_sparks yX8_sparks, Cond.code yX8_sparks cX8_sparks 5 (some .int), Cond.methodLink RX8 205 yX8_isSheet, Cond.static yX8_isSheet, Cond.code yX8_isSheet cX8_isSheet 1 (some .boolean), Cond.methodLink RX8 208 yX8_areEdgesSo, Cond.instanceMethod yX8_areEdgesSo, Cond.selects RX8 yX8_areEdgesSo yX8_areEdgesSo, Cond.code yX8_areEdgesSo cX8_areEdgesSo 4 (some .boolean), Cond.methodLink RL 100 yX7_last, Cond.instanceMethod yX7_last, Cond.selects RX7 yX7_last yX7_last, Cond.code yX7_last cX7_last 7 (some .int), Cond.methodLink RX7 237 yX7_greatestOf, Cond.static yX7_greatestOf, Cond.code yX7_greatestOf cX7_greatestOf 3 (some .int), Cond.methodLink RL 103 yX8_last, Cond.instanceMethod yX8_last, Cond.selects RX8 yX8_last yX8_last, Cond.code yX8_last cX8_last 9 (some .int), Cond.methodLink RL 104 yX7_sharp, Cond.instanceMethod yX7_sharp]
def wsL_law_r29 : List Cond := [Cond.selects RX7 yX7_sharp yX7_sharp, Cond.code yX7_sharp cX7_sharp 4 (some .int), Cond.methodLink RL 107 yX8_sharp, Cond.instanceMethod yX8_sharp, Cond.selects RX8 yX8_sharp yX8_sharp, Cond.code yX8_sharp cX8_sharp 6 (some .int), Cond.methodLink RL 108 yX7_off, Cond.instanceMethod yX7_off, Cond.selects RX7 yX7_off yX7_off, Cond.code yX7_off cX7_off 3 (some .int), Cond.methodLink RL 111 yX8_off, Cond.instanceMethod yX8_off, Cond.selects RX8 yX8_off yX8_off, Cond.code yX8_off cX8_off 3 (some .int), Cond.methodLink RL 112 yX7_chain, Cond.instanceMethod yX7_chain, Cond.selects RX7 yX7_chain yX7_chain, Cond.code yX7_chain cX7_chain 2 (some .int), Cond.instanceMethod yX0_setHangingOn, Cond.selects RX0 yX0_setHangingOn yX0_setHangingOn, Cond.code yX0_setHangingOn cX0_setHangingOn 5 (some .int), Cond.methodLink RL 115 yX8_chain, Cond.instanceMethod yX8_chain, Cond.selects RX8 yX8_chain yX8_chain]
def wsL_law_r30 : List Cond := [Cond.code yX8_chain cX8_chain 6 (some .int), Cond.methodLink RL 116 yX7_fee, Cond.instanceMethod yX7_fee, Cond.selects RX7 yX7_fee yX7_fee, Cond.code yX7_fee cX7_fee 2 (some .int), Cond.methodLink RL 119 yX8_fee, Cond.instanceMethod yX8_fee, Cond.selects RX8 yX8_fee yX8_fee, Cond.code yX8_fee cX8_fee 3 (some .int), Cond.methodLink RL 120 yX7_free, Cond.instanceMethod yX7_free, Cond.selects RX7 yX7_free yX7_free, Cond.code yX7_free cX7_free 1 (some .int), Cond.instanceMethod yX0_setFree, Cond.selects RX0 yX0_setFree yX0_setFree, Cond.code yX0_setFree cX0_setFree 3 (some .int), Cond.methodLink RL 124 yX8_free, Cond.instanceMethod yX8_free, Cond.selects RX8 yX8_free yX8_free, Cond.code yX8_free cX8_free 3 (some .int), Cond.methodLink RL 125 yX7_odds, Cond.instanceMethod yX7_odds, Cond.selects RX7 yX7_odds yX7_odds, Cond.code yX7_odds cX7_odds 6 (some .int)]
def wsL_law_r31 : List Cond := [Cond.methodLink RX7 252 yX7_greatestDivisor, Cond.static yX7_greatestDivisor, Cond.code yX7_greatestDivisor cX7_greatestDivisor 3 (some .int), Cond.methodLink RL 128 yX8_odds, Cond.instanceMethod yX8_odds, Cond.selects RX8 yX8_odds yX8_odds, Cond.code yX8_odds cX8_odds 7 (some .int), Cond.methodLink RX8 211 yX8_divisor, Cond.static yX8_divisor, Cond.code yX8_divisor cX8_divisor 5 (some .int), Cond.methodLink RL 129 yX7_seed, Cond.instanceMethod yX7_seed, Cond.selects RX7 yX7_seed yX7_seed, Cond.code yX7_seed cX7_seed 3 (some .int), Cond.methodLink RL 132 yX8_seed, Cond.instanceMethod yX8_seed, Cond.selects RX8 yX8_seed yX8_seed, Cond.code yX8_seed cX8_seed 3 (some .int), Cond.methodLink RL 133 yX7_voice, Cond.instanceMethod yX7_voice, Cond.selects RX7 yX7_voice yX7_voice, Cond.code yX7_voice cX7_voice 5 (some .int), Cond.instanceMethod yX5_beginWith, Cond.selects RX5 yX5_beginWith yX5_beginWith]
def wsL_law_r32 : List Cond := [Cond.code yX5_beginWith cX5_beginWith 4 none, Cond.fieldLink RX5 15 "KnivesGround$Voices" "bodies" "I", Cond.fieldLink RX5 19 "KnivesGround$Voices" "own" "I", Cond.fieldLink RX5 22 "KnivesGround$Voices" "n" "I", Cond.fieldLink RX5 25 "KnivesGround$Voices" "m" "I", Cond.instanceMethod yX5_say, Cond.selects RX5 yX5_say yX5_say, Cond.code yX5_say cX5_say 3 (some .int), Cond.methodLink RX5 28 yX5_sayGrinds, Cond.instanceMethod yX5_sayGrinds, Cond.selects RX5 yX5_sayGrinds yX5_sayGrinds, Cond.code yX5_sayGrinds cX5_sayGrinds 3 (some .int), Cond.methodLink RX5 41 yX5_begin, Cond.instanceMethod yX5_begin, Cond.selects RX5 yX5_begin yX5_begin, Cond.code yX5_begin cX5_begin 2 none, Cond.methodLink RX5 32 yX5_sayCuts, Cond.instanceMethod yX5_sayCuts, Cond.selects RX5 yX5_sayCuts yX5_sayCuts, Cond.code yX5_sayCuts cX5_sayCuts 3 (some .int), Cond.methodLink RX5 35 yX5_saySparks, Cond.instanceMethod yX5_saySparks, Cond.selects RX5 yX5_saySparks yX5_saySparks, Cond.code yX5_saySparks cX5_saySparks 3 (some .int)]
def wsL_law_r33 : List Cond := [Cond.methodLink RX5 38 yX5_sayTells, Cond.instanceMethod yX5_sayTells, Cond.selects RX5 yX5_sayTells yX5_sayTells, Cond.code yX5_sayTells cX5_sayTells 3 (some .int), Cond.methodLink RL 136 yX8_voice, Cond.instanceMethod yX8_voice, Cond.selects RX8 yX8_voice yX8_voice, Cond.code yX8_voice cX8_voice 4 (some .int), Cond.fieldLink RX8 214 "KnivesGroundModel" "tracedMany" "I", Cond.fieldLink RX8 232 "KnivesGroundModel" "voiceKind" "I", Cond.fieldLink RX8 220 "KnivesGroundModel" "voiceN" "I", Cond.fieldLink RX8 226 "KnivesGroundModel" "voiceM" "I", Cond.methodLink RX8 223 yX8_grindsIn, Cond.instanceMethod yX8_grindsIn, Cond.selects RX8 yX8_grindsIn yX8_grindsIn, Cond.code yX8_grindsIn cX8_grindsIn 3 (some .int), Cond.methodLink RX8 217 yX8_ran, Cond.instanceMethod yX8_ran, Cond.selects RX8 yX8_ran yX8_ran, Cond.code yX8_ran cX8_ran 2 none, Cond.methodLink RX8 235 yX8_cutsIn, Cond.instanceMethod yX8_cutsIn, Cond.selects RX8 yX8_cutsIn yX8_cutsIn, Cond.code yX8_cutsIn cX8_cutsIn 4 (some .int)]
def wsL_law_r34 : List Cond := [Cond.methodLink RX8 229 yX8_sparksIn, Cond.instanceMethod yX8_sparksIn, Cond.selects RX8 yX8_sparksIn yX8_sparksIn, Cond.code yX8_sparksIn cX8_sparksIn 3 (some .int), Cond.methodLink RX8 238 yX8_tellsIn, Cond.instanceMethod yX8_tellsIn, Cond.selects RX8 yX8_tellsIn yX8_tellsIn, Cond.code yX8_tellsIn cX8_tellsIn 4 (some .int), Cond.methodLink RL 137 yX7_trace, Cond.instanceMethod yX7_trace, Cond.selects RX7 yX7_trace yX7_trace, Cond.code yX7_trace cX7_trace 2 (some .int), Cond.methodLink RL 140 yX8_trace, Cond.instanceMethod yX8_trace, Cond.selects RX8 yX8_trace yX8_trace, Cond.code yX8_trace cX8_trace 2 (some .int), Cond.methodLink RL 141 yX7_sheet, Cond.instanceMethod yX7_sheet, Cond.selects RX7 yX7_sheet yX7_sheet, Cond.code yX7_sheet cX7_sheet 4 (some .int), Cond.instanceMethod yX3_lay, Cond.selects RX3 yX3_lay yX3_lay, Cond.code yX3_lay cX3_lay 4 none, Cond.fieldLink RX3 19 "KnivesGround$Sheet" "many" "I"]
def wsL_law_r35 : List Cond := [Cond.methodLink RL 144 yX8_sheet, Cond.instanceMethod yX8_sheet, Cond.selects RX8 yX8_sheet yX8_sheet, Cond.code yX8_sheet cX8_sheet 5 (some .int), Cond.methodLink RL 145 yX7_put, Cond.instanceMethod yX7_put, Cond.selects RX7 yX7_put yX7_put, Cond.code yX7_put cX7_put 5 (some .int), Cond.instanceMethod yX3_write, Cond.selects RX3 yX3_write yX3_write, Cond.code yX3_write cX3_write 3 none, Cond.methodLink RL 148 yX8_put, Cond.instanceMethod yX8_put, Cond.selects RX8 yX8_put yX8_put, Cond.code yX8_put cX8_put 4 (some .int), Cond.methodLink RX8 241 yX8_narrow, Cond.static yX8_narrow, Cond.code yX8_narrow cX8_narrow 2 (some .int), Cond.methodLink RL 149 yX7_move, Cond.instanceMethod yX7_move, Cond.selects RX7 yX7_move yX7_move, Cond.code yX7_move cX7_move 8 (some .int), Cond.methodLink RX7 287 arraycopyName, Cond.instanceMethod yX3_hasNumbers]
def wsL_law_r36 : List Cond := [Cond.selects RX3 yX3_hasNumbers yX3_hasNumbers, Cond.code yX3_hasNumbers cX3_hasNumbers 3 (some .boolean), Cond.methodLink RL 153 yX8_move, Cond.instanceMethod yX8_move, Cond.selects RX8 yX8_move yX8_move, Cond.code yX8_move cX8_move 7 (some .int), Cond.methodLink RL 154 yX7_edges, Cond.instanceMethod yX7_edges, Cond.selects RX7 yX7_edges yX7_edges, Cond.code yX7_edges cX7_edges 5 (some .int), Cond.methodLink RX7 293 Lib.Math.min.name, Cond.methodLink RL 157 yX8_edges, Cond.instanceMethod yX8_edges, Cond.selects RX8 yX8_edges yX8_edges, Cond.code yX8_edges cX8_edges 3 (some .int), Cond.methodLink RL 158 yX7_judge, Cond.instanceMethod yX7_judge, Cond.selects RX7 yX7_judge yX7_judge, Cond.code yX7_judge cX7_judge 5 (some .int), Cond.methodLink RL 161 yX8_judge, Cond.instanceMethod yX8_judge, Cond.selects RX8 yX8_judge yX8_judge, Cond.code yX8_judge cX8_judge 3 (some .int), Cond.methodLink RL 162 yX7_image]
def wsL_law_r37 : List Cond := [Cond.instanceMethod yX7_image, Cond.selects RX7 yX7_image yX7_image, Cond.code yX7_image cX7_image 1 (some .int), Cond.fieldLink RX7 301 "KnivesGround" "images" "I", Cond.instanceMethod yX6_copyFrom, Cond.selects RX6 yX6_copyFrom yX6_copyFrom, Cond.code yX6_copyFrom cX6_copyFrom 2 none, Cond.fieldLink RX6 53 "KnivesGround$Whole" "bytes" "I", Cond.methodLink RX6 56 arraycopyName, Cond.fieldLink RX6 62 "KnivesGround$Whole" "waits" "I", Cond.methodLink RL 165 yX8_image, Cond.instanceMethod yX8_image, Cond.selects RX8 yX8_image yX8_image, Cond.code yX8_image cX8_image 1 (some .int), Cond.fieldLink RX8 244 "KnivesGroundModel" "isKept" "Z", Cond.fieldLink RX8 247 "KnivesGroundModel" "images" "I", Cond.methodLink RL 166 yX7_restore, Cond.instanceMethod yX7_restore, Cond.selects RX7 yX7_restore yX7_restore, Cond.code yX7_restore cX7_restore 1 (some .int), Cond.methodLink RL 169 yX8_restore, Cond.instanceMethod yX8_restore, Cond.selects RX8 yX8_restore yX8_restore, Cond.code yX8_restore cX8_restore 1 (some .int)]
def wsL_law_r38 : List Cond := [Cond.methodLink RL 170 yX7_tell, Cond.instanceMethod yX7_tell, Cond.selects RX7 yX7_tell yX7_tell, Cond.code yX7_tell cX7_tell 2 (some .int), Cond.methodLink RL 173 yX8_tell, Cond.instanceMethod yX8_tell, Cond.selects RX8 yX8_tell yX8_tell, Cond.code yX8_tell cX8_tell 2 (some .int), Cond.methodLink RL 174 yX7_check, Cond.instanceMethod yX7_check, Cond.selects RX7 yX7_check yX7_check, Cond.code yX7_check cX7_check 3 (some .int), Cond.methodLink RL 177 yX8_check, Cond.instanceMethod yX8_check, Cond.selects RX8 yX8_check yX8_check, Cond.code yX8_check cX8_check 4 (some .int), Cond.methodLink RL 178 yX7_count, Cond.instanceMethod yX7_count, Cond.selects RX7 yX7_count yX7_count, Cond.code yX7_count cX7_count 3 (some .int), Cond.instanceMethod yX0_edgesTogether, Cond.selects RX0 yX0_edgesTogether yX0_edgesTogether, Cond.code yX0_edgesTogether cX0_edgesTogether 3 (some .int), Cond.methodLink RL 181 yX8_count]
def wsL_law_r39 : List Cond := [Cond.instanceMethod yX8_count, Cond.selects RX8 yX8_count yX8_count, Cond.code yX8_count cX8_count 2 (some .int), Cond.methodLink RX8 250 yX8_edgesOfAll, Cond.instanceMethod yX8_edgesOfAll, Cond.selects RX8 yX8_edgesOfAll yX8_edgesOfAll, Cond.code yX8_edgesOfAll cX8_edgesOfAll 3 (some .int), Cond.methodLink RL 182 yX7_told, Cond.instanceMethod yX7_told, Cond.selects RX7 yX7_told yX7_told, Cond.code yX7_told cX7_told 2 (some .int), Cond.methodLink RL 185 yX8_told, Cond.instanceMethod yX8_told, Cond.selects RX8 yX8_told yX8_told, Cond.code yX8_told cX8_told 2 (some .int)]
def wsL_law : List Cond := (wsL_law_r1 ++ (wsL_law_r2 ++ (wsL_law_r3 ++ (wsL_law_r4 ++ (wsL_law_r5 ++ (wsL_law_r6 ++ (wsL_law_r7 ++ (wsL_law_r8 ++ (wsL_law_r9 ++ (wsL_law_r10 ++ (wsL_law_r11 ++ (wsL_law_r12 ++ (wsL_law_r13 ++ (wsL_law_r14 ++ (wsL_law_r15 ++ (wsL_law_r16 ++ (wsL_law_r17 ++ (wsL_law_r18 ++ (wsL_law_r19 ++ (wsL_law_r20 ++ (wsL_law_r21 ++ (wsL_law_r22 ++ (wsL_law_r23 ++ (wsL_law_r24 ++ (wsL_law_r25 ++ (wsL_law_r26 ++ (wsL_law_r27 ++ (wsL_law_r28 ++ (wsL_law_r29 ++ (wsL_law_r30 ++ (wsL_law_r31 ++ (wsL_law_r32 ++ (wsL_law_r33 ++ (wsL_law_r34 ++ (wsL_law_r35 ++ (wsL_law_r36 ++ (wsL_law_r37 ++ (wsL_law_r38 ++ wsL_law_r39)))))))))))))))))))))))))))))))))))))) ++ wsX70 ++ wsX80 ++ wsX60 ++ wsX00 ++ wsX20 ++ wsX50 ++ wsX30 ++ wsX40 ++ wsX10 ++ ([] : List Cond)
theorem inlX0 : ∀ w ∈ wsX00, w ∈ wsL_law := fun _ h => List.mem_append_left _ (List.mem_append_left _ (List.mem_append_left _ (List.mem_append_left _ (List.mem_append_left _ (List.mem_append_left _ (List.mem_append_right _ h))))))
theorem inlX1 : ∀ w ∈ wsX10, w ∈ wsL_law := fun _ h => List.mem_append_left _ (List.mem_append_right _ h)
theorem inlX2 : ∀ w ∈ wsX20, w ∈ wsL_law := fun _ h => List.mem_append_left _ (List.mem_append_left _ (List.mem_append_left _ (List.mem_append_left _ (List.mem_append_left _ (List.mem_append_right _ h)))))
theorem inlX3 : ∀ w ∈ wsX30, w ∈ wsL_law := fun _ h => List.mem_append_left _ (List.mem_append_left _ (List.mem_append_left _ (List.mem_append_right _ h)))
theorem inlX4 : ∀ w ∈ wsX40, w ∈ wsL_law := fun _ h => List.mem_append_left _ (List.mem_append_left _ (List.mem_append_right _ h))
theorem inlX5 : ∀ w ∈ wsX50, w ∈ wsL_law := fun _ h => List.mem_append_left _ (List.mem_append_left _ (List.mem_append_left _ (List.mem_append_left _ (List.mem_append_right _ h))))
theorem inlX6 : ∀ w ∈ wsX60, w ∈ wsL_law := fun _ h => List.mem_append_left _ (List.mem_append_left _ (List.mem_append_left _ (List.mem_append_left _ (List.mem_append_left _ (List.mem_append_left _ (List.mem_append_left _ (List.mem_append_right _ h)))))))
theorem inlX7 : ∀ w ∈ wsX70, w ∈ wsL_law := fun _ h => List.mem_append_left _ (List.mem_append_left _ (List.mem_append_left _ (List.mem_append_left _ (List.mem_append_left _ (List.mem_append_left _ (List.mem_append_left _ (List.mem_append_left _ (List.mem_append_left _ (List.mem_append_right _ h)))))))))
theorem inlX8 : ∀ w ∈ wsX80, w ∈ wsL_law := fun _ h => List.mem_append_left _ (List.mem_append_left _ (List.mem_append_left _ (List.mem_append_left _ (List.mem_append_left _ (List.mem_append_left _ (List.mem_append_left _ (List.mem_append_left _ (List.mem_append_right _ h))))))))
abbrev AW : List Cond := wsL_law
theorem in_rs : ∀ w ∈ ((wsL_law_r1 ++ (wsL_law_r2 ++ (wsL_law_r3 ++ (wsL_law_r4 ++ (wsL_law_r5 ++ (wsL_law_r6 ++ (wsL_law_r7 ++ (wsL_law_r8 ++ (wsL_law_r9 ++ (wsL_law_r10 ++ (wsL_law_r11 ++ (wsL_law_r12 ++ (wsL_law_r13 ++ (wsL_law_r14 ++ (wsL_law_r15 ++ (wsL_law_r16 ++ (wsL_law_r17 ++ (wsL_law_r18 ++ (wsL_law_r19 ++ (wsL_law_r20 ++ (wsL_law_r21 ++ (wsL_law_r22 ++ (wsL_law_r23 ++ (wsL_law_r24 ++ (wsL_law_r25 ++ (wsL_law_r26 ++ (wsL_law_r27 ++ (wsL_law_r28 ++ (wsL_law_r29 ++ (wsL_law_r30 ++ (wsL_law_r31 ++ (wsL_law_r32 ++ (wsL_law_r33 ++ (wsL_law_r34 ++ (wsL_law_r35 ++ (wsL_law_r36 ++ (wsL_law_r37 ++ (wsL_law_r38 ++ wsL_law_r39))))))))))))))))))))))))))))))))))))))), w ∈ AW := fun w h => List.mem_append_left _ (List.mem_append_left _ (List.mem_append_left _ (List.mem_append_left _ (List.mem_append_left _ (List.mem_append_left _ (List.mem_append_left _ (List.mem_append_left _ (List.mem_append_left _ (List.mem_append_left _ (h))))))))))
theorem in_wsL_law_r1 : ∀ w ∈ wsL_law_r1, w ∈ AW := fun w h => in_rs w (List.mem_append_left _ h)
theorem in_wsL_law_r2 : ∀ w ∈ wsL_law_r2, w ∈ AW := fun w h => in_rs w (List.mem_append_right _ (List.mem_append_left _ h))
theorem in_wsL_law_r3 : ∀ w ∈ wsL_law_r3, w ∈ AW := fun w h => in_rs w (List.mem_append_right _ (List.mem_append_right _ (List.mem_append_left _ h)))
theorem in_wsL_law_r4 : ∀ w ∈ wsL_law_r4, w ∈ AW := fun w h => in_rs w (List.mem_append_right _ (List.mem_append_right _ (List.mem_append_right _ (List.mem_append_left _ h))))
theorem in_wsL_law_r5 : ∀ w ∈ wsL_law_r5, w ∈ AW := fun w h => in_rs w (List.mem_append_right _ (List.mem_append_right _ (List.mem_append_right _ (List.mem_append_right _ (List.mem_append_left _ h)))))
theorem in_wsL_law_r6 : ∀ w ∈ wsL_law_r6, w ∈ AW := fun w h => in_rs w (List.mem_append_right _ (List.mem_append_right _ (List.mem_append_right _ (List.mem_append_right _ (List.mem_append_right _ (List.mem_append_left _ h))))))
theorem in_wsL_law_r7 : ∀ w ∈ wsL_law_r7, w ∈ AW := fun w h => in_rs w (List.mem_append_right _ (List.mem_append_right _ (List.mem_append_right _ (List.mem_append_right _ (List.mem_append_right _ (List.mem_append_right _ (List.mem_append_left _ h)))))))
theorem in_wsL_law_r8 : ∀ w ∈ wsL_law_r8, w ∈ AW := fun w h => in_rs w (List.mem_append_right _ (List.mem_append_right _ (List.mem_append_right _ (List.mem_append_right _ (List.mem_append_right _ (List.mem_append_right _ (List.mem_append_right _ (List.mem_append_left _ h))))))))
theorem in_wsL_law_r9 : ∀ w ∈ wsL_law_r9, w ∈ AW := fun w h => in_rs w (List.mem_append_right _ (List.mem_append_right _ (List.mem_append_right _ (List.mem_append_right _ (List.mem_append_right _ (List.mem_append_right _ (List.mem_append_right _ (List.mem_append_right _ (List.mem_append_left _ h)))))))))
theorem in_wsL_law_r10 : ∀ w ∈ wsL_law_r10, w ∈ AW := fun w h => in_rs w (List.mem_append_right _ (List.mem_append_right _ (List.mem_append_right _ (List.mem_append_right _ (List.mem_append_right _ (List.mem_append_right _ (List.mem_append_right _ (List.mem_append_right _ (List.mem_append_right _ (List.mem_append_left _ h))))))))))
theorem in_wsL_law_r11 : ∀ w ∈ wsL_law_r11, w ∈ AW := fun w h => in_rs w (List.mem_append_right _ (List.mem_append_right _ (List.mem_append_right _ (List.mem_append_right _ (List.mem_append_right _ (List.mem_append_right _ (List.mem_append_right _ (List.mem_append_right _ (List.mem_append_right _ (List.mem_append_right _ (List.mem_append_left _ h)))))))))))
theorem in_wsL_law_r12 : ∀ w ∈ wsL_law_r12, w ∈ AW := fun w h => in_rs w (List.mem_append_right _ (List.mem_append_right _ (List.mem_append_right _ (List.mem_append_right _ (List.mem_append_right _ (List.mem_append_right _ (List.mem_append_right _ (List.mem_append_right _ (List.mem_append_right _ (List.mem_append_right _ (List.mem_append_right _ (List.mem_append_left _ h))))))))))))
theorem in_wsL_law_r13 : ∀ w ∈ wsL_law_r13, w ∈ AW := fun w h => in_rs w (List.mem_append_right _ (List.mem_append_right _ (List.mem_append_right _ (List.mem_append_right _ (List.mem_append_right _ (List.mem_append_right _ (List.mem_append_right _ (List.mem_append_right _ (List.mem_append_right _ (List.mem_append_right _ (List.mem_append_right _ (List.mem_append_right _ (List.mem_append_left _ h)))))))))))))
theorem in_wsL_law_r14 : ∀ w ∈ wsL_law_r14, w ∈ AW := fun w h => in_rs w (List.mem_append_right _ (List.mem_append_right _ (List.mem_append_right _ (List.mem_append_right _ (List.mem_append_right _ (List.mem_append_right _ (List.mem_append_right _ (List.mem_append_right _ (List.mem_append_right _ (List.mem_append_right _ (List.mem_append_right _ (List.mem_append_right _ (List.mem_append_right _ (List.mem_append_left _ h))))))))))))))
theorem in_wsL_law_r15 : ∀ w ∈ wsL_law_r15, w ∈ AW := fun w h => in_rs w (List.mem_append_right _ (List.mem_append_right _ (List.mem_append_right _ (List.mem_append_right _ (List.mem_append_right _ (List.mem_append_right _ (List.mem_append_right _ (List.mem_append_right _ (List.mem_append_right _ (List.mem_append_right _ (List.mem_append_right _ (List.mem_append_right _ (List.mem_append_right _ (List.mem_append_right _ (List.mem_append_left _ h)))))))))))))))
theorem in_wsL_law_r16 : ∀ w ∈ wsL_law_r16, w ∈ AW := fun w h => in_rs w (List.mem_append_right _ (List.mem_append_right _ (List.mem_append_right _ (List.mem_append_right _ (List.mem_append_right _ (List.mem_append_right _ (List.mem_append_right _ (List.mem_append_right _ (List.mem_append_right _ (List.mem_append_right _ (List.mem_append_right _ (List.mem_append_right _ (List.mem_append_right _ (List.mem_append_right _ (List.mem_append_right _ (List.mem_append_left _ h))))))))))))))))
theorem in_wsL_law_r17 : ∀ w ∈ wsL_law_r17, w ∈ AW := fun w h => in_rs w (List.mem_append_right _ (List.mem_append_right _ (List.mem_append_right _ (List.mem_append_right _ (List.mem_append_right _ (List.mem_append_right _ (List.mem_append_right _ (List.mem_append_right _ (List.mem_append_right _ (List.mem_append_right _ (List.mem_append_right _ (List.mem_append_right _ (List.mem_append_right _ (List.mem_append_right _ (List.mem_append_right _ (List.mem_append_right _ (List.mem_append_left _ h)))))))))))))))))
theorem in_wsL_law_r18 : ∀ w ∈ wsL_law_r18, w ∈ AW := fun w h => in_rs w (List.mem_append_right _ (List.mem_append_right _ (List.mem_append_right _ (List.mem_append_right _ (List.mem_append_right _ (List.mem_append_right _ (List.mem_append_right _ (List.mem_append_right _ (List.mem_append_right _ (List.mem_append_right _ (List.mem_append_right _ (List.mem_append_right _ (List.mem_append_right _ (List.mem_append_right _ (List.mem_append_right _ (List.mem_append_right _ (List.mem_append_right _ (List.mem_append_left _ h))))))))))))))))))
theorem in_wsL_law_r19 : ∀ w ∈ wsL_law_r19, w ∈ AW := fun w h => in_rs w (List.mem_append_right _ (List.mem_append_right _ (List.mem_append_right _ (List.mem_append_right _ (List.mem_append_right _ (List.mem_append_right _ (List.mem_append_right _ (List.mem_append_right _ (List.mem_append_right _ (List.mem_append_right _ (List.mem_append_right _ (List.mem_append_right _ (List.mem_append_right _ (List.mem_append_right _ (List.mem_append_right _ (List.mem_append_right _ (List.mem_append_right _ (List.mem_append_right _ (List.mem_append_left _ h)))))))))))))))))))
theorem in_wsL_law_r20 : ∀ w ∈ wsL_law_r20, w ∈ AW := fun w h => in_rs w (List.mem_append_right _ (List.mem_append_right _ (List.mem_append_right _ (List.mem_append_right _ (List.mem_append_right _ (List.mem_append_right _ (List.mem_append_right _ (List.mem_append_right _ (List.mem_append_right _ (List.mem_append_right _ (List.mem_append_right _ (List.mem_append_right _ (List.mem_append_right _ (List.mem_append_right _ (List.mem_append_right _ (List.mem_append_right _ (List.mem_append_right _ (List.mem_append_right _ (List.mem_append_right _ (List.mem_append_left _ h))))))))))))))))))))
theorem in_wsL_law_r21 : ∀ w ∈ wsL_law_r21, w ∈ AW := fun w h => in_rs w (List.mem_append_right _ (List.mem_append_right _ (List.mem_append_right _ (List.mem_append_right _ (List.mem_append_right _ (List.mem_append_right _ (List.mem_append_right _ (List.mem_append_right _ (List.mem_append_right _ (List.mem_append_right _ (List.mem_append_right _ (List.mem_append_right _ (List.mem_append_right _ (List.mem_append_right _ (List.mem_append_right _ (List.mem_append_right _ (List.mem_append_right _ (List.mem_append_right _ (List.mem_append_right _ (List.mem_append_right _ (List.mem_append_left _ h)))))))))))))))))))))
theorem in_wsL_law_r22 : ∀ w ∈ wsL_law_r22, w ∈ AW := fun w h => in_rs w (List.mem_append_right _ (List.mem_append_right _ (List.mem_append_right _ (List.mem_append_right _ (List.mem_append_right _ (List.mem_append_right _ (List.mem_append_right _ (List.mem_append_right _ (List.mem_append_right _ (List.mem_append_right _ (List.mem_append_right _ (List.mem_append_right _ (List.mem_append_right _ (List.mem_append_right _ (List.mem_append_right _ (List.mem_append_right _ (List.mem_append_right _ (List.mem_append_right _ (List.mem_append_right _ (List.mem_append_right _ (List.mem_append_right _ (List.mem_append_left _ h))))))))))))))))))))))
theorem in_wsL_law_r23 : ∀ w ∈ wsL_law_r23, w ∈ AW := fun w h => in_rs w (List.mem_append_right _ (List.mem_append_right _ (List.mem_append_right _ (List.mem_append_right _ (List.mem_append_right _ (List.mem_append_right _ (List.mem_append_right _ (List.mem_append_right _ (List.mem_append_right _ (List.mem_append_right _ (List.mem_append_right _ (List.mem_append_right _ (List.mem_append_right _ (List.mem_append_right _ (List.mem_append_right _ (List.mem_append_right _ (List.mem_append_right _ (List.mem_append_right _ (List.mem_append_right _ (List.mem_append_right _ (List.mem_append_right _ (List.mem_append_right _ (List.mem_append_left _ h)))))))))))))))))))))))
theorem in_wsL_law_r24 : ∀ w ∈ wsL_law_r24, w ∈ AW := fun w h => in_rs w (List.mem_append_right _ (List.mem_append_right _ (List.mem_append_right _ (List.mem_append_right _ (List.mem_append_right _ (List.mem_append_right _ (List.mem_append_right _ (List.mem_append_right _ (List.mem_append_right _ (List.mem_append_right _ (List.mem_append_right _ (List.mem_append_right _ (List.mem_append_right _ (List.mem_append_right _ (List.mem_append_right _ (List.mem_append_right _ (List.mem_append_right _ (List.mem_append_right _ (List.mem_append_right _ (List.mem_append_right _ (List.mem_append_right _ (List.mem_append_right _ (List.mem_append_right _ (List.mem_append_left _ h))))))))))))))))))))))))
theorem in_wsL_law_r25 : ∀ w ∈ wsL_law_r25, w ∈ AW := fun w h => in_rs w (List.mem_append_right _ (List.mem_append_right _ (List.mem_append_right _ (List.mem_append_right _ (List.mem_append_right _ (List.mem_append_right _ (List.mem_append_right _ (List.mem_append_right _ (List.mem_append_right _ (List.mem_append_right _ (List.mem_append_right _ (List.mem_append_right _ (List.mem_append_right _ (List.mem_append_right _ (List.mem_append_right _ (List.mem_append_right _ (List.mem_append_right _ (List.mem_append_right _ (List.mem_append_right _ (List.mem_append_right _ (List.mem_append_right _ (List.mem_append_right _ (List.mem_append_right _ (List.mem_append_right _ (List.mem_append_left _ h)))))))))))))))))))))))))
theorem in_wsL_law_r26 : ∀ w ∈ wsL_law_r26, w ∈ AW := fun w h => in_rs w (List.mem_append_right _ (List.mem_append_right _ (List.mem_append_right _ (List.mem_append_right _ (List.mem_append_right _ (List.mem_append_right _ (List.mem_append_right _ (List.mem_append_right _ (List.mem_append_right _ (List.mem_append_right _ (List.mem_append_right _ (List.mem_append_right _ (List.mem_append_right _ (List.mem_append_right _ (List.mem_append_right _ (List.mem_append_right _ (List.mem_append_right _ (List.mem_append_right _ (List.mem_append_right _ (List.mem_append_right _ (List.mem_append_right _ (List.mem_append_right _ (List.mem_append_right _ (List.mem_append_right _ (List.mem_append_right _ (List.mem_append_left _ h))))))))))))))))))))))))))
theorem in_wsL_law_r27 : ∀ w ∈ wsL_law_r27, w ∈ AW := fun w h => in_rs w (List.mem_append_right _ (List.mem_append_right _ (List.mem_append_right _ (List.mem_append_right _ (List.mem_append_right _ (List.mem_append_right _ (List.mem_append_right _ (List.mem_append_right _ (List.mem_append_right _ (List.mem_append_right _ (List.mem_append_right _ (List.mem_append_right _ (List.mem_append_right _ (List.mem_append_right _ (List.mem_append_right _ (List.mem_append_right _ (List.mem_append_right _ (List.mem_append_right _ (List.mem_append_right _ (List.mem_append_right _ (List.mem_append_right _ (List.mem_append_right _ (List.mem_append_right _ (List.mem_append_right _ (List.mem_append_right _ (List.mem_append_right _ (List.mem_append_left _ h)))))))))))))))))))))))))))
theorem in_wsL_law_r28 : ∀ w ∈ wsL_law_r28, w ∈ AW := fun w h => in_rs w (List.mem_append_right _ (List.mem_append_right _ (List.mem_append_right _ (List.mem_append_right _ (List.mem_append_right _ (List.mem_append_right _ (List.mem_append_right _ (List.mem_append_right _ (List.mem_append_right _ (List.mem_append_right _ (List.mem_append_right _ (List.mem_append_right _ (List.mem_append_right _ (List.mem_append_right _ (List.mem_append_right _ (List.mem_append_right _ (List.mem_append_right _ (List.mem_append_right _ (List.mem_append_right _ (List.mem_append_right _ (List.mem_append_right _ (List.mem_append_right _ (List.mem_append_right _ (List.mem_append_right _ (List.mem_append_right _ (List.mem_append_right _ (List.mem_append_right _ (List.mem_append_left _ h))))))))))))))))))))))))))))
theorem in_wsL_law_r29 : ∀ w ∈ wsL_law_r29, w ∈ AW := fun w h => in_rs w (List.mem_append_right _ (List.mem_append_right _ (List.mem_append_right _ (List.mem_append_right _ (List.mem_append_right _ (List.mem_append_right _ (List.mem_append_right _ (List.mem_append_right _ (List.mem_append_right _ (List.mem_append_right _ (List.mem_append_right _ (List.mem_append_right _ (List.mem_append_right _ (List.mem_append_right _ (List.mem_append_right _ (List.mem_append_right _ (List.mem_append_right _ (List.mem_append_right _ (List.mem_append_right _ (List.mem_append_right _ (List.mem_append_right _ (List.mem_append_right _ (List.mem_append_right _ (List.mem_append_right _ (List.mem_append_right _ (List.mem_append_right _ (List.mem_append_right _ (List.mem_append_right _ (List.mem_append_left _ h)))))))))))))))))))))))))))))
theorem in_wsL_law_r30 : ∀ w ∈ wsL_law_r30, w ∈ AW := fun w h => in_rs w (List.mem_append_right _ (List.mem_append_right _ (List.mem_append_right _ (List.mem_append_right _ (List.mem_append_right _ (List.mem_append_right _ (List.mem_append_right _ (List.mem_append_right _ (List.mem_append_right _ (List.mem_append_right _ (List.mem_append_right _ (List.mem_append_right _ (List.mem_append_right _ (List.mem_append_right _ (List.mem_append_right _ (List.mem_append_right _ (List.mem_append_right _ (List.mem_append_right _ (List.mem_append_right _ (List.mem_append_right _ (List.mem_append_right _ (List.mem_append_right _ (List.mem_append_right _ (List.mem_append_right _ (List.mem_append_right _ (List.mem_append_right _ (List.mem_append_right _ (List.mem_append_right _ (List.mem_append_right _ (List.mem_append_left _ h))))))))))))))))))))))))))))))
theorem in_wsL_law_r31 : ∀ w ∈ wsL_law_r31, w ∈ AW := fun w h => in_rs w (List.mem_append_right _ (List.mem_append_right _ (List.mem_append_right _ (List.mem_append_right _ (List.mem_append_right _ (List.mem_append_right _ (List.mem_append_right _ (List.mem_append_right _ (List.mem_append_right _ (List.mem_append_right _ (List.mem_append_right _ (List.mem_append_right _ (List.mem_append_right _ (List.mem_append_right _ (List.mem_append_right _ (List.mem_append_right _ (List.mem_append_right _ (List.mem_append_right _ (List.mem_append_right _ (List.mem_append_right _ (List.mem_append_right _ (List.mem_append_right _ (List.mem_append_right _ (List.mem_append_right _ (List.mem_append_right _ (List.mem_append_right _ (List.mem_append_right _ (List.mem_append_right _ (List.mem_append_right _ (List.mem_append_right _ (List.mem_append_left _ h)))))))))))))))))))))))))))))))
theorem in_wsL_law_r32 : ∀ w ∈ wsL_law_r32, w ∈ AW := fun w h => in_rs w (List.mem_append_right _ (List.mem_append_right _ (List.mem_append_right _ (List.mem_append_right _ (List.mem_append_right _ (List.mem_append_right _ (List.mem_append_right _ (List.mem_append_right _ (List.mem_append_right _ (List.mem_append_right _ (List.mem_append_right _ (List.mem_append_right _ (List.mem_append_right _ (List.mem_append_right _ (List.mem_append_right _ (List.mem_append_right _ (List.mem_append_right _ (List.mem_append_right _ (List.mem_append_right _ (List.mem_append_right _ (List.mem_append_right _ (List.mem_append_right _ (List.mem_append_right _ (List.mem_append_right _ (List.mem_append_right _ (List.mem_append_right _ (List.mem_append_right _ (List.mem_append_right _ (List.mem_append_right _ (List.mem_append_right _ (List.mem_append_right _ (List.mem_append_left _ h))))))))))))))))))))))))))))))))
theorem in_wsL_law_r33 : ∀ w ∈ wsL_law_r33, w ∈ AW := fun w h => in_rs w (List.mem_append_right _ (List.mem_append_right _ (List.mem_append_right _ (List.mem_append_right _ (List.mem_append_right _ (List.mem_append_right _ (List.mem_append_right _ (List.mem_append_right _ (List.mem_append_right _ (List.mem_append_right _ (List.mem_append_right _ (List.mem_append_right _ (List.mem_append_right _ (List.mem_append_right _ (List.mem_append_right _ (List.mem_append_right _ (List.mem_append_right _ (List.mem_append_right _ (List.mem_append_right _ (List.mem_append_right _ (List.mem_append_right _ (List.mem_append_right _ (List.mem_append_right _ (List.mem_append_right _ (List.mem_append_right _ (List.mem_append_right _ (List.mem_append_right _ (List.mem_append_right _ (List.mem_append_right _ (List.mem_append_right _ (List.mem_append_right _ (List.mem_append_right _ (List.mem_append_left _ h)))))))))))))))))))))))))))))))))
theorem in_wsL_law_r34 : ∀ w ∈ wsL_law_r34, w ∈ AW := fun w h => in_rs w (List.mem_append_right _ (List.mem_append_right _ (List.mem_append_right _ (List.mem_append_right _ (List.mem_append_right _ (List.mem_append_right _ (List.mem_append_right _ (List.mem_append_right _ (List.mem_append_right _ (List.mem_append_right _ (List.mem_append_right _ (List.mem_append_right _ (List.mem_append_right _ (List.mem_append_right _ (List.mem_append_right _ (List.mem_append_right _ (List.mem_append_right _ (List.mem_append_right _ (List.mem_append_right _ (List.mem_append_right _ (List.mem_append_right _ (List.mem_append_right _ (List.mem_append_right _ (List.mem_append_right _ (List.mem_append_right _ (List.mem_append_right _ (List.mem_append_right _ (List.mem_append_right _ (List.mem_append_right _ (List.mem_append_right _ (List.mem_append_right _ (List.mem_append_right _ (List.mem_append_right _ (List.mem_append_left _ h))))))))))))))))))))))))))))))))))
theorem in_wsL_law_r35 : ∀ w ∈ wsL_law_r35, w ∈ AW := fun w h => in_rs w (List.mem_append_right _ (List.mem_append_right _ (List.mem_append_right _ (List.mem_append_right _ (List.mem_append_right _ (List.mem_append_right _ (List.mem_append_right _ (List.mem_append_right _ (List.mem_append_right _ (List.mem_append_right _ (List.mem_append_right _ (List.mem_append_right _ (List.mem_append_right _ (List.mem_append_right _ (List.mem_append_right _ (List.mem_append_right _ (List.mem_append_right _ (List.mem_append_right _ (List.mem_append_right _ (List.mem_append_right _ (List.mem_append_right _ (List.mem_append_right _ (List.mem_append_right _ (List.mem_append_right _ (List.mem_append_right _ (List.mem_append_right _ (List.mem_append_right _ (List.mem_append_right _ (List.mem_append_right _ (List.mem_append_right _ (List.mem_append_right _ (List.mem_append_right _ (List.mem_append_right _ (List.mem_append_right _ (List.mem_append_left _ h)))))))))))))))))))))))))))))))))))
theorem in_wsL_law_r36 : ∀ w ∈ wsL_law_r36, w ∈ AW := fun w h => in_rs w (List.mem_append_right _ (List.mem_append_right _ (List.mem_append_right _ (List.mem_append_right _ (List.mem_append_right _ (List.mem_append_right _ (List.mem_append_right _ (List.mem_append_right _ (List.mem_append_right _ (List.mem_append_right _ (List.mem_append_right _ (List.mem_append_right _ (List.mem_append_right _ (List.mem_append_right _ (List.mem_append_right _ (List.mem_append_right _ (List.mem_append_right _ (List.mem_append_right _ (List.mem_append_right _ (List.mem_append_right _ (List.mem_append_right _ (List.mem_append_right _ (List.mem_append_right _ (List.mem_append_right _ (List.mem_append_right _ (List.mem_append_right _ (List.mem_append_right _ (List.mem_append_right _ (List.mem_append_right _ (List.mem_append_right _ (List.mem_append_right _ (List.mem_append_right _ (List.mem_append_right _ (List.mem_append_right _ (List.mem_append_right _ (List.mem_append_left _ h))))))))))))))))))))))))))))))))))))
theorem in_wsL_law_r37 : ∀ w ∈ wsL_law_r37, w ∈ AW := fun w h => in_rs w (List.mem_append_right _ (List.mem_append_right _ (List.mem_append_right _ (List.mem_append_right _ (List.mem_append_right _ (List.mem_append_right _ (List.mem_append_right _ (List.mem_append_right _ (List.mem_append_right _ (List.mem_append_right _ (List.mem_append_right _ (List.mem_append_right _ (List.mem_append_right _ (List.mem_append_right _ (List.mem_append_right _ (List.mem_append_right _ (List.mem_append_right _ (List.mem_append_right _ (List.mem_append_right _ (List.mem_append_right _ (List.mem_append_right _ (List.mem_append_right _ (List.mem_append_right _ (List.mem_append_right _ (List.mem_append_right _ (List.mem_append_right _ (List.mem_append_right _ (List.mem_append_right _ (List.mem_append_right _ (List.mem_append_right _ (List.mem_append_right _ (List.mem_append_right _ (List.mem_append_right _ (List.mem_append_right _ (List.mem_append_right _ (List.mem_append_right _ (List.mem_append_left _ h)))))))))))))))))))))))))))))))))))))
theorem in_wsL_law_r38 : ∀ w ∈ wsL_law_r38, w ∈ AW := fun w h => in_rs w (List.mem_append_right _ (List.mem_append_right _ (List.mem_append_right _ (List.mem_append_right _ (List.mem_append_right _ (List.mem_append_right _ (List.mem_append_right _ (List.mem_append_right _ (List.mem_append_right _ (List.mem_append_right _ (List.mem_append_right _ (List.mem_append_right _ (List.mem_append_right _ (List.mem_append_right _ (List.mem_append_right _ (List.mem_append_right _ (List.mem_append_right _ (List.mem_append_right _ (List.mem_append_right _ (List.mem_append_right _ (List.mem_append_right _ (List.mem_append_right _ (List.mem_append_right _ (List.mem_append_right _ (List.mem_append_right _ (List.mem_append_right _ (List.mem_append_right _ (List.mem_append_right _ (List.mem_append_right _ (List.mem_append_right _ (List.mem_append_right _ (List.mem_append_right _ (List.mem_append_right _ (List.mem_append_right _ (List.mem_append_right _ (List.mem_append_right _ (List.mem_append_right _ (List.mem_append_left _ h))))))))))))))))))))))))))))))))))))))
theorem in_wsL_law_r39 : ∀ w ∈ wsL_law_r39, w ∈ AW := fun w h => in_rs w (List.mem_append_right _ (List.mem_append_right _ (List.mem_append_right _ (List.mem_append_right _ (List.mem_append_right _ (List.mem_append_right _ (List.mem_append_right _ (List.mem_append_right _ (List.mem_append_right _ (List.mem_append_right _ (List.mem_append_right _ (List.mem_append_right _ (List.mem_append_right _ (List.mem_append_right _ (List.mem_append_right _ (List.mem_append_right _ (List.mem_append_right _ (List.mem_append_right _ (List.mem_append_right _ (List.mem_append_right _ (List.mem_append_right _ (List.mem_append_right _ (List.mem_append_right _ (List.mem_append_right _ (List.mem_append_right _ (List.mem_append_right _ (List.mem_append_right _ (List.mem_append_right _ (List.mem_append_right _ (List.mem_append_right _ (List.mem_append_right _ (List.mem_append_right _ (List.mem_append_right _ (List.mem_append_right _ (List.mem_append_right _ (List.mem_append_right _ (List.mem_append_right _ (List.mem_append_right _ (h)))))))))))))))))))))))))))))))))))))))
theorem aw_0 : Cond.classLink RL 7 RX7 ∈ AW := in_wsL_law_r1 _ (List.mem_of_getElem? (i := 0) rfl)
theorem aw_1 : Cond.instantiable RX7 8 ∈ AW := in_wsL_law_r1 _ (List.mem_of_getElem? (i := 1) rfl)
theorem aw_2 : Cond.initialized RX7 ∈ AW := in_wsL_law_r1 _ (List.mem_of_getElem? (i := 2) rfl)
theorem aw_3 : Cond.classLink RL 10 RX8 ∈ AW := in_wsL_law_r1 _ (List.mem_of_getElem? (i := 3) rfl)
theorem aw_4 : Cond.instantiable RX8 24 ∈ AW := in_wsL_law_r1 _ (List.mem_of_getElem? (i := 4) rfl)
theorem aw_5 : Cond.initialized RX8 ∈ AW := in_wsL_law_r1 _ (List.mem_of_getElem? (i := 5) rfl)
theorem aw_6 : Cond.constantLong RL 45 (4294967295) ∈ AW := in_wsL_law_r1 _ (List.mem_of_getElem? (i := 6) rfl)
theorem aw_7 : Cond.methodLink RL 9 yX7_init ∈ AW := in_wsL_law_r1 _ (List.mem_of_getElem? (i := 7) rfl)
theorem aw_8 : Cond.instanceMethod yX7_init ∈ AW := in_wsL_law_r1 _ (List.mem_of_getElem? (i := 8) rfl)
theorem aw_9 : Cond.code yX7_init cX7_init 2 none ∈ AW := in_wsL_law_r1 _ (List.mem_of_getElem? (i := 9) rfl)
theorem aw_10 : Cond.methodLink RX7 3 objectInit ∈ AW := in_wsL_law_r1 _ (List.mem_of_getElem? (i := 10) rfl)
theorem aw_11 : Cond.instanceMethod objectInit ∈ AW := in_wsL_law_r1 _ (List.mem_of_getElem? (i := 11) rfl)
theorem aw_12 : Cond.code objectInit ⟨#[0xb1]⟩ 1 none ∈ AW := in_wsL_law_r1 _ (List.mem_of_getElem? (i := 12) rfl)
theorem aw_13 : Cond.classLink RX7 9 RX6 ∈ AW := in_wsL_law_r1 _ (List.mem_of_getElem? (i := 13) rfl)
theorem aw_14 : Cond.instantiable RX6 8 ∈ AW := in_wsL_law_r1 _ (List.mem_of_getElem? (i := 14) rfl)
theorem aw_15 : Cond.initialized RX6 ∈ AW := in_wsL_law_r1 _ (List.mem_of_getElem? (i := 15) rfl)
theorem aw_16 : Cond.fieldLink RX7 12 "KnivesGround" "now" "LKnivesGround$Whole;" ∈ AW := in_wsL_law_r1 _ (List.mem_of_getElem? (i := 16) rfl)
theorem aw_17 : Cond.fieldLink RX7 16 "KnivesGround" "kept" "LKnivesGround$Whole;" ∈ AW := in_wsL_law_r1 _ (List.mem_of_getElem? (i := 17) rfl)
theorem aw_18 : Cond.classLink RX7 19 RX0 ∈ AW := in_wsL_law_r1 _ (List.mem_of_getElem? (i := 18) rfl)
theorem aw_19 : Cond.instantiable RX0 9 ∈ AW := in_wsL_law_r1 _ (List.mem_of_getElem? (i := 19) rfl)
theorem aw_20 : Cond.initialized RX0 ∈ AW := in_wsL_law_r1 _ (List.mem_of_getElem? (i := 20) rfl)
theorem aw_21 : Cond.fieldLink RX7 31 "KnivesGround" "thought" "LKnivesGround$Ground;" ∈ AW := in_wsL_law_r1 _ (List.mem_of_getElem? (i := 21) rfl)
theorem aw_22 : Cond.classLink RX7 35 RX2 ∈ AW := in_wsL_law_r1 _ (List.mem_of_getElem? (i := 22) rfl)
theorem aw_23 : Cond.instantiable RX2 5 ∈ AW := in_wsL_law_r1 _ (List.mem_of_getElem? (i := 23) rfl)
theorem aw_24 : Cond.initialized RX2 ∈ AW := in_wsL_law_r2 _ (List.mem_of_getElem? (i := 0) rfl)
theorem aw_25 : Cond.fieldLink RX7 38 "KnivesGround" "reader" "LKnivesGround$Reader;" ∈ AW := in_wsL_law_r2 _ (List.mem_of_getElem? (i := 1) rfl)
theorem aw_26 : Cond.classLink RX7 42 RX5 ∈ AW := in_wsL_law_r2 _ (List.mem_of_getElem? (i := 2) rfl)
theorem aw_27 : Cond.instantiable RX5 5 ∈ AW := in_wsL_law_r2 _ (List.mem_of_getElem? (i := 3) rfl)
theorem aw_28 : Cond.initialized RX5 ∈ AW := in_wsL_law_r2 _ (List.mem_of_getElem? (i := 4) rfl)
theorem aw_29 : Cond.fieldLink RX7 45 "KnivesGround" "voices" "LKnivesGround$Voices;" ∈ AW := in_wsL_law_r2 _ (List.mem_of_getElem? (i := 5) rfl)
theorem aw_30 : Cond.classLink RX7 49 RX3 ∈ AW := in_wsL_law_r2 _ (List.mem_of_getElem? (i := 6) rfl)
theorem aw_31 : Cond.fieldLink RX7 51 "KnivesGround" "sheets" "[LKnivesGround$Sheet;" ∈ AW := in_wsL_law_r2 _ (List.mem_of_getElem? (i := 7) rfl)
theorem aw_32 : Cond.arrayClass .int ∈ AW := in_wsL_law_r2 _ (List.mem_of_getElem? (i := 8) rfl)
theorem aw_33 : Cond.fieldLink RX7 55 "KnivesGround" "refused" "[I" ∈ AW := in_wsL_law_r2 _ (List.mem_of_getElem? (i := 9) rfl)
theorem aw_34 : Cond.instantiable RX3 3 ∈ AW := in_wsL_law_r2 _ (List.mem_of_getElem? (i := 10) rfl)
theorem aw_35 : Cond.initialized RX3 ∈ AW := in_wsL_law_r2 _ (List.mem_of_getElem? (i := 11) rfl)
theorem aw_36 : Cond.instanceMethod yX6_init ∈ AW := in_wsL_law_r2 _ (List.mem_of_getElem? (i := 12) rfl)
theorem aw_37 : Cond.code yX6_init cX6_init 1 none ∈ AW := in_wsL_law_r2 _ (List.mem_of_getElem? (i := 13) rfl)
theorem aw_38 : Cond.methodLink RX6 3 objectInit ∈ AW := in_wsL_law_r2 _ (List.mem_of_getElem? (i := 14) rfl)
theorem aw_39 : Cond.classLink RX6 9 RX4 ∈ AW := in_wsL_law_r2 _ (List.mem_of_getElem? (i := 15) rfl)
theorem aw_40 : Cond.instantiable RX4 6 ∈ AW := in_wsL_law_r2 _ (List.mem_of_getElem? (i := 16) rfl)
theorem aw_41 : Cond.initialized RX4 ∈ AW := in_wsL_law_r2 _ (List.mem_of_getElem? (i := 17) rfl)
theorem aw_42 : Cond.fieldLink RX6 12 "KnivesGround$Whole" "grinds" "LKnivesGround$Text;" ∈ AW := in_wsL_law_r2 _ (List.mem_of_getElem? (i := 18) rfl)
theorem aw_43 : Cond.fieldLink RX6 18 "KnivesGround$Whole" "harms" "LKnivesGround$Text;" ∈ AW := in_wsL_law_r2 _ (List.mem_of_getElem? (i := 19) rfl)
theorem aw_44 : Cond.classLink RX6 21 RX0 ∈ AW := in_wsL_law_r2 _ (List.mem_of_getElem? (i := 20) rfl)
theorem aw_45 : Cond.fieldLink RX6 26 "KnivesGround$Whole" "ground" "LKnivesGround$Ground;" ∈ AW := in_wsL_law_r2 _ (List.mem_of_getElem? (i := 21) rfl)
theorem aw_46 : Cond.fieldLink RX6 30 "KnivesGround$Whole" "tape" "[I" ∈ AW := in_wsL_law_r2 _ (List.mem_of_getElem? (i := 22) rfl)
theorem aw_47 : Cond.fieldLink RX6 34 "KnivesGround$Whole" "waiting" "[I" ∈ AW := in_wsL_law_r2 _ (List.mem_of_getElem? (i := 23) rfl)
theorem aw_48 : Cond.fieldLink RX6 37 "KnivesGround$Whole" "z" "I" ∈ AW := in_wsL_law_r3 _ (List.mem_of_getElem? (i := 0) rfl)
theorem aw_49 : Cond.instanceMethod yX4_init ∈ AW := in_wsL_law_r3 _ (List.mem_of_getElem? (i := 1) rfl)
theorem aw_50 : Cond.code yX4_init cX4_init 1 none ∈ AW := in_wsL_law_r3 _ (List.mem_of_getElem? (i := 2) rfl)
theorem aw_51 : Cond.methodLink RX4 3 objectInit ∈ AW := in_wsL_law_r3 _ (List.mem_of_getElem? (i := 3) rfl)
theorem aw_52 : Cond.fieldLink RX4 9 "KnivesGround$Text" "signs" "[I" ∈ AW := in_wsL_law_r3 _ (List.mem_of_getElem? (i := 4) rfl)
theorem aw_53 : Cond.fieldLink RX4 15 "KnivesGround$Text" "lefts" "[I" ∈ AW := in_wsL_law_r3 _ (List.mem_of_getElem? (i := 5) rfl)
theorem aw_54 : Cond.fieldLink RX4 18 "KnivesGround$Text" "rights" "[I" ∈ AW := in_wsL_law_r3 _ (List.mem_of_getElem? (i := 6) rfl)
theorem aw_55 : Cond.fieldLink RX4 21 "KnivesGround$Text" "values" "[I" ∈ AW := in_wsL_law_r3 _ (List.mem_of_getElem? (i := 7) rfl)
theorem aw_56 : Cond.instanceMethod yX0_init ∈ AW := in_wsL_law_r3 _ (List.mem_of_getElem? (i := 8) rfl)
theorem aw_57 : Cond.code yX0_init cX0_init 4 none ∈ AW := in_wsL_law_r3 _ (List.mem_of_getElem? (i := 9) rfl)
theorem aw_58 : Cond.methodLink RX0 3 objectInit ∈ AW := in_wsL_law_r3 _ (List.mem_of_getElem? (i := 10) rfl)
theorem aw_59 : Cond.classLink RX0 9 RX1 ∈ AW := in_wsL_law_r3 _ (List.mem_of_getElem? (i := 11) rfl)
theorem aw_60 : Cond.fieldLink RX0 11 "KnivesGround$Ground" "ones" "[LKnivesGround$One;" ∈ AW := in_wsL_law_r3 _ (List.mem_of_getElem? (i := 12) rfl)
theorem aw_61 : Cond.fieldLink RX0 17 "KnivesGround$Ground" "step" "I" ∈ AW := in_wsL_law_r3 _ (List.mem_of_getElem? (i := 13) rfl)
theorem aw_62 : Cond.fieldLink RX0 21 "KnivesGround$Ground" "grinds" "LKnivesGround$Text;" ∈ AW := in_wsL_law_r3 _ (List.mem_of_getElem? (i := 14) rfl)
theorem aw_63 : Cond.fieldLink RX0 25 "KnivesGround$Ground" "harms" "LKnivesGround$Text;" ∈ AW := in_wsL_law_r3 _ (List.mem_of_getElem? (i := 15) rfl)
theorem aw_64 : Cond.instantiable RX1 7 ∈ AW := in_wsL_law_r3 _ (List.mem_of_getElem? (i := 16) rfl)
theorem aw_65 : Cond.initialized RX1 ∈ AW := in_wsL_law_r3 _ (List.mem_of_getElem? (i := 17) rfl)
theorem aw_66 : Cond.instanceMethod yX1_init ∈ AW := in_wsL_law_r3 _ (List.mem_of_getElem? (i := 18) rfl)
theorem aw_67 : Cond.code yX1_init cX1_init 1 none ∈ AW := in_wsL_law_r3 _ (List.mem_of_getElem? (i := 19) rfl)
theorem aw_68 : Cond.methodLink RX1 3 objectInit ∈ AW := in_wsL_law_r3 _ (List.mem_of_getElem? (i := 20) rfl)
theorem aw_69 : Cond.instanceMethod yX4_clear ∈ AW := in_wsL_law_r3 _ (List.mem_of_getElem? (i := 21) rfl)
theorem aw_70 : Cond.selects RX4 yX4_clear yX4_clear ∈ AW := in_wsL_law_r3 _ (List.mem_of_getElem? (i := 22) rfl)
theorem aw_71 : Cond.code yX4_clear cX4_clear 2 none ∈ AW := in_wsL_law_r3 _ (List.mem_of_getElem? (i := 23) rfl)
theorem aw_72 : Cond.fieldLink RX4 24 "KnivesGround$Text" "use" "I" ∈ AW := in_wsL_law_r4 _ (List.mem_of_getElem? (i := 0) rfl)
theorem aw_73 : Cond.fieldLink RX4 28 "KnivesGround$Text" "size" "I" ∈ AW := in_wsL_law_r4 _ (List.mem_of_getElem? (i := 1) rfl)
theorem aw_74 : Cond.instanceMethod yX2_init ∈ AW := in_wsL_law_r4 _ (List.mem_of_getElem? (i := 2) rfl)
theorem aw_75 : Cond.code yX2_init cX2_init 1 none ∈ AW := in_wsL_law_r4 _ (List.mem_of_getElem? (i := 3) rfl)
theorem aw_76 : Cond.methodLink RX2 3 objectInit ∈ AW := in_wsL_law_r4 _ (List.mem_of_getElem? (i := 4) rfl)
theorem aw_77 : Cond.classLink RX2 9 RX4 ∈ AW := in_wsL_law_r4 _ (List.mem_of_getElem? (i := 5) rfl)
theorem aw_78 : Cond.fieldLink RX2 12 "KnivesGround$Reader" "text" "LKnivesGround$Text;" ∈ AW := in_wsL_law_r4 _ (List.mem_of_getElem? (i := 6) rfl)
theorem aw_79 : Cond.fieldLink RX2 18 "KnivesGround$Reader" "bytes" "[I" ∈ AW := in_wsL_law_r4 _ (List.mem_of_getElem? (i := 7) rfl)
theorem aw_80 : Cond.instanceMethod yX5_init ∈ AW := in_wsL_law_r4 _ (List.mem_of_getElem? (i := 8) rfl)
theorem aw_81 : Cond.code yX5_init cX5_init 1 none ∈ AW := in_wsL_law_r4 _ (List.mem_of_getElem? (i := 9) rfl)
theorem aw_82 : Cond.methodLink RX5 3 objectInit ∈ AW := in_wsL_law_r4 _ (List.mem_of_getElem? (i := 10) rfl)
theorem aw_83 : Cond.fieldLink RX5 9 "KnivesGround$Voices" "trace" "[I" ∈ AW := in_wsL_law_r4 _ (List.mem_of_getElem? (i := 11) rfl)
theorem aw_84 : Cond.instanceMethod yX3_init ∈ AW := in_wsL_law_r4 _ (List.mem_of_getElem? (i := 12) rfl)
theorem aw_85 : Cond.code yX3_init cX3_init 1 none ∈ AW := in_wsL_law_r4 _ (List.mem_of_getElem? (i := 13) rfl)
theorem aw_86 : Cond.methodLink RX3 3 objectInit ∈ AW := in_wsL_law_r4 _ (List.mem_of_getElem? (i := 14) rfl)
theorem aw_87 : Cond.fieldLink RX3 9 "KnivesGround$Sheet" "numbers" "[I" ∈ AW := in_wsL_law_r4 _ (List.mem_of_getElem? (i := 15) rfl)
theorem aw_88 : Cond.methodLink RL 12 yX8_init ∈ AW := in_wsL_law_r4 _ (List.mem_of_getElem? (i := 16) rfl)
theorem aw_89 : Cond.instanceMethod yX8_init ∈ AW := in_wsL_law_r4 _ (List.mem_of_getElem? (i := 17) rfl)
theorem aw_90 : Cond.code yX8_init cX8_init 1 none ∈ AW := in_wsL_law_r4 _ (List.mem_of_getElem? (i := 18) rfl)
theorem aw_91 : Cond.methodLink RX8 1 objectInit ∈ AW := in_wsL_law_r4 _ (List.mem_of_getElem? (i := 19) rfl)
theorem aw_92 : Cond.fieldLink RX8 7 "KnivesGroundModel" "row" "[I" ∈ AW := in_wsL_law_r4 _ (List.mem_of_getElem? (i := 20) rfl)
theorem aw_93 : Cond.fieldLink RX8 13 "KnivesGroundModel" "kept" "[I" ∈ AW := in_wsL_law_r4 _ (List.mem_of_getElem? (i := 21) rfl)
theorem aw_94 : Cond.fieldLink RX8 16 "KnivesGroundModel" "tried" "[I" ∈ AW := in_wsL_law_r4 _ (List.mem_of_getElem? (i := 22) rfl)
theorem aw_95 : Cond.fieldLink RX8 19 "KnivesGroundModel" "found" "[I" ∈ AW := in_wsL_law_r4 _ (List.mem_of_getElem? (i := 23) rfl)
theorem aw_96 : Cond.fieldLink RX8 22 "KnivesGroundModel" "made" "[I" ∈ AW := in_wsL_law_r5 _ (List.mem_of_getElem? (i := 0) rfl)
theorem aw_97 : Cond.fieldLink RX8 25 "KnivesGroundModel" "pile" "[I" ∈ AW := in_wsL_law_r5 _ (List.mem_of_getElem? (i := 1) rfl)
theorem aw_98 : Cond.fieldLink RX8 28 "KnivesGroundModel" "names" "[I" ∈ AW := in_wsL_law_r5 _ (List.mem_of_getElem? (i := 2) rfl)
theorem aw_99 : Cond.fieldLink RX8 31 "KnivesGroundModel" "bitsOf" "[I" ∈ AW := in_wsL_law_r5 _ (List.mem_of_getElem? (i := 3) rfl)
theorem aw_100 : Cond.fieldLink RX8 34 "KnivesGroundModel" "sizeOf" "[I" ∈ AW := in_wsL_law_r5 _ (List.mem_of_getElem? (i := 4) rfl)
theorem aw_101 : Cond.fieldLink RX8 37 "KnivesGroundModel" "sheets" "[I" ∈ AW := in_wsL_law_r5 _ (List.mem_of_getElem? (i := 5) rfl)
theorem aw_102 : Cond.fieldLink RX8 40 "KnivesGroundModel" "moved" "[I" ∈ AW := in_wsL_law_r5 _ (List.mem_of_getElem? (i := 6) rfl)
theorem aw_103 : Cond.fieldLink RX8 43 "KnivesGroundModel" "traced" "[I" ∈ AW := in_wsL_law_r5 _ (List.mem_of_getElem? (i := 7) rfl)
theorem aw_104 : Cond.methodLink RL 13 yX7_set ∈ AW := in_wsL_law_r5 _ (List.mem_of_getElem? (i := 8) rfl)
theorem aw_105 : Cond.instanceMethod yX7_set ∈ AW := in_wsL_law_r5 _ (List.mem_of_getElem? (i := 9) rfl)
theorem aw_106 : Cond.selects RX7 yX7_set yX7_set ∈ AW := in_wsL_law_r5 _ (List.mem_of_getElem? (i := 10) rfl)
theorem aw_107 : Cond.code yX7_set cX7_set 3 (some .int) ∈ AW := in_wsL_law_r5 _ (List.mem_of_getElem? (i := 11) rfl)
theorem aw_108 : Cond.constant RX7 68 (-1000000001) ∈ AW := in_wsL_law_r5 _ (List.mem_of_getElem? (i := 12) rfl)
theorem aw_109 : Cond.methodLink RX7 60 yX7_isWithin ∈ AW := in_wsL_law_r5 _ (List.mem_of_getElem? (i := 13) rfl)
theorem aw_110 : Cond.static yX7_isWithin ∈ AW := in_wsL_law_r5 _ (List.mem_of_getElem? (i := 14) rfl)
theorem aw_111 : Cond.code yX7_isWithin cX7_isWithin 3 (some .boolean) ∈ AW := in_wsL_law_r5 _ (List.mem_of_getElem? (i := 15) rfl)
theorem aw_112 : Cond.methodLink RX7 64 yX7_mostOfGrinder ∈ AW := in_wsL_law_r5 _ (List.mem_of_getElem? (i := 16) rfl)
theorem aw_113 : Cond.static yX7_mostOfGrinder ∈ AW := in_wsL_law_r5 _ (List.mem_of_getElem? (i := 17) rfl)
theorem aw_114 : Cond.code yX7_mostOfGrinder cX7_mostOfGrinder 1 (some .int) ∈ AW := in_wsL_law_r5 _ (List.mem_of_getElem? (i := 18) rfl)
theorem aw_115 : Cond.constant RX7 314 (99999) ∈ AW := in_wsL_law_r5 _ (List.mem_of_getElem? (i := 19) rfl)
theorem aw_116 : Cond.methodLink RX7 69 yX7_refuse ∈ AW := in_wsL_law_r5 _ (List.mem_of_getElem? (i := 20) rfl)
theorem aw_117 : Cond.instanceMethod yX7_refuse ∈ AW := in_wsL_law_r5 _ (List.mem_of_getElem? (i := 21) rfl)
theorem aw_118 : Cond.selects RX7 yX7_refuse yX7_refuse ∈ AW := in_wsL_law_r5 _ (List.mem_of_getElem? (i := 22) rfl)
theorem aw_119 : Cond.code yX7_refuse cX7_refuse 2 (some .int) ∈ AW := in_wsL_law_r5 _ (List.mem_of_getElem? (i := 23) rfl)
theorem aw_120 : Cond.constant RX7 313 (-1000000000) ∈ AW := in_wsL_law_r6 _ (List.mem_of_getElem? (i := 0) rfl)
theorem aw_121 : Cond.instanceMethod yX0_setGrinder ∈ AW := in_wsL_law_r6 _ (List.mem_of_getElem? (i := 1) rfl)
theorem aw_122 : Cond.selects RX0 yX0_setGrinder yX0_setGrinder ∈ AW := in_wsL_law_r6 _ (List.mem_of_getElem? (i := 2) rfl)
theorem aw_123 : Cond.code yX0_setGrinder cX0_setGrinder 4 (some .int) ∈ AW := in_wsL_law_r6 _ (List.mem_of_getElem? (i := 3) rfl)
theorem aw_124 : Cond.fieldLink RX0 36 "KnivesGround$Ground" "grinder" "I" ∈ AW := in_wsL_law_r6 _ (List.mem_of_getElem? (i := 4) rfl)
theorem aw_125 : Cond.fieldLink RX0 42 "KnivesGround$Ground" "harm" "I" ∈ AW := in_wsL_law_r6 _ (List.mem_of_getElem? (i := 5) rfl)
theorem aw_126 : Cond.fieldLink RX0 45 "KnivesGround$Ground" "pence" "I" ∈ AW := in_wsL_law_r6 _ (List.mem_of_getElem? (i := 6) rfl)
theorem aw_127 : Cond.methodLink RL 17 yX8_set ∈ AW := in_wsL_law_r6 _ (List.mem_of_getElem? (i := 7) rfl)
theorem aw_128 : Cond.instanceMethod yX8_set ∈ AW := in_wsL_law_r6 _ (List.mem_of_getElem? (i := 8) rfl)
theorem aw_129 : Cond.selects RX8 yX8_set yX8_set ∈ AW := in_wsL_law_r6 _ (List.mem_of_getElem? (i := 9) rfl)
theorem aw_130 : Cond.code yX8_set cX8_set 4 (some .int) ∈ AW := in_wsL_law_r6 _ (List.mem_of_getElem? (i := 10) rfl)
theorem aw_131 : Cond.constant RX8 55 (99999) ∈ AW := in_wsL_law_r6 _ (List.mem_of_getElem? (i := 11) rfl)
theorem aw_132 : Cond.constant RX8 60 (-1000000001) ∈ AW := in_wsL_law_r6 _ (List.mem_of_getElem? (i := 12) rfl)
theorem aw_133 : Cond.methodLink RX8 47 yX8_in ∈ AW := in_wsL_law_r6 _ (List.mem_of_getElem? (i := 13) rfl)
theorem aw_134 : Cond.static yX8_in ∈ AW := in_wsL_law_r6 _ (List.mem_of_getElem? (i := 14) rfl)
theorem aw_135 : Cond.code yX8_in cX8_in 3 (some .boolean) ∈ AW := in_wsL_law_r6 _ (List.mem_of_getElem? (i := 15) rfl)
theorem aw_136 : Cond.methodLink RX8 51 yX8_isArea ∈ AW := in_wsL_law_r6 _ (List.mem_of_getElem? (i := 16) rfl)
theorem aw_137 : Cond.static yX8_isArea ∈ AW := in_wsL_law_r6 _ (List.mem_of_getElem? (i := 17) rfl)
theorem aw_138 : Cond.code yX8_isArea cX8_isArea 1 (some .boolean) ∈ AW := in_wsL_law_r6 _ (List.mem_of_getElem? (i := 18) rfl)
theorem aw_139 : Cond.methodLink RX8 56 yX8_becomes ∈ AW := in_wsL_law_r6 _ (List.mem_of_getElem? (i := 19) rfl)
theorem aw_140 : Cond.instanceMethod yX8_becomes ∈ AW := in_wsL_law_r6 _ (List.mem_of_getElem? (i := 20) rfl)
theorem aw_141 : Cond.selects RX8 yX8_becomes yX8_becomes ∈ AW := in_wsL_law_r6 _ (List.mem_of_getElem? (i := 21) rfl)
theorem aw_142 : Cond.code yX8_becomes cX8_becomes 4 (some .int) ∈ AW := in_wsL_law_r6 _ (List.mem_of_getElem? (i := 22) rfl)
theorem aw_143 : Cond.methodLink RX8 61 yX8_errs ∈ AW := in_wsL_law_r6 _ (List.mem_of_getElem? (i := 23) rfl)
theorem aw_144 : Cond.instanceMethod yX8_errs ∈ AW := in_wsL_law_r7 _ (List.mem_of_getElem? (i := 0) rfl)
theorem aw_145 : Cond.selects RX8 yX8_errs yX8_errs ∈ AW := in_wsL_law_r7 _ (List.mem_of_getElem? (i := 1) rfl)
theorem aw_146 : Cond.code yX8_errs cX8_errs 2 (some .int) ∈ AW := in_wsL_law_r7 _ (List.mem_of_getElem? (i := 2) rfl)
theorem aw_147 : Cond.constant RX8 46 (-1000000000) ∈ AW := in_wsL_law_r7 _ (List.mem_of_getElem? (i := 3) rfl)
theorem aw_148 : Cond.methodLink RL 18 yX7_inArea ∈ AW := in_wsL_law_r7 _ (List.mem_of_getElem? (i := 4) rfl)
theorem aw_149 : Cond.instanceMethod yX7_inArea ∈ AW := in_wsL_law_r7 _ (List.mem_of_getElem? (i := 5) rfl)
theorem aw_150 : Cond.selects RX7 yX7_inArea yX7_inArea ∈ AW := in_wsL_law_r7 _ (List.mem_of_getElem? (i := 6) rfl)
theorem aw_151 : Cond.code yX7_inArea cX7_inArea 2 (some .int) ∈ AW := in_wsL_law_r7 _ (List.mem_of_getElem? (i := 7) rfl)
theorem aw_152 : Cond.instanceMethod yX0_setInArea ∈ AW := in_wsL_law_r7 _ (List.mem_of_getElem? (i := 8) rfl)
theorem aw_153 : Cond.selects RX0 yX0_setInArea yX0_setInArea ∈ AW := in_wsL_law_r7 _ (List.mem_of_getElem? (i := 9) rfl)
theorem aw_154 : Cond.code yX0_setInArea cX0_setInArea 4 (some .int) ∈ AW := in_wsL_law_r7 _ (List.mem_of_getElem? (i := 10) rfl)
theorem aw_155 : Cond.fieldLink RX0 29 "KnivesGround$Ground" "many" "I" ∈ AW := in_wsL_law_r7 _ (List.mem_of_getElem? (i := 11) rfl)
theorem aw_156 : Cond.methodLink RL 22 yX8_inArea ∈ AW := in_wsL_law_r7 _ (List.mem_of_getElem? (i := 12) rfl)
theorem aw_157 : Cond.instanceMethod yX8_inArea ∈ AW := in_wsL_law_r7 _ (List.mem_of_getElem? (i := 13) rfl)
theorem aw_158 : Cond.selects RX8 yX8_inArea yX8_inArea ∈ AW := in_wsL_law_r7 _ (List.mem_of_getElem? (i := 14) rfl)
theorem aw_159 : Cond.code yX8_inArea cX8_inArea 4 (some .int) ∈ AW := in_wsL_law_r7 _ (List.mem_of_getElem? (i := 15) rfl)
theorem aw_160 : Cond.methodLink RX8 65 yX8_its ∈ AW := in_wsL_law_r7 _ (List.mem_of_getElem? (i := 16) rfl)
theorem aw_161 : Cond.instanceMethod yX8_its ∈ AW := in_wsL_law_r7 _ (List.mem_of_getElem? (i := 17) rfl)
theorem aw_162 : Cond.selects RX8 yX8_its yX8_its ∈ AW := in_wsL_law_r7 _ (List.mem_of_getElem? (i := 18) rfl)
theorem aw_163 : Cond.code yX8_its cX8_its 3 (some .int) ∈ AW := in_wsL_law_r7 _ (List.mem_of_getElem? (i := 19) rfl)
theorem aw_164 : Cond.methodLink RL 23 yX7_quarrel ∈ AW := in_wsL_law_r7 _ (List.mem_of_getElem? (i := 20) rfl)
theorem aw_165 : Cond.instanceMethod yX7_quarrel ∈ AW := in_wsL_law_r7 _ (List.mem_of_getElem? (i := 21) rfl)
theorem aw_166 : Cond.selects RX7 yX7_quarrel yX7_quarrel ∈ AW := in_wsL_law_r7 _ (List.mem_of_getElem? (i := 22) rfl)
theorem aw_167 : Cond.code yX7_quarrel cX7_quarrel 7 (some .int) ∈ AW := in_wsL_law_r7 _ (List.mem_of_getElem? (i := 23) rfl)
theorem aw_168 : Cond.constant RX7 90 (-1000000004) ∈ AW := in_wsL_law_r8 _ (List.mem_of_getElem? (i := 0) rfl)
theorem aw_169 : Cond.methodLink RX7 82 yX7_isKindAndM ∈ AW := in_wsL_law_r8 _ (List.mem_of_getElem? (i := 1) rfl)
theorem aw_170 : Cond.static yX7_isKindAndM ∈ AW := in_wsL_law_r8 _ (List.mem_of_getElem? (i := 2) rfl)
theorem aw_171 : Cond.code yX7_isKindAndM cX7_isKindAndM 1 (some .boolean) ∈ AW := in_wsL_law_r8 _ (List.mem_of_getElem? (i := 3) rfl)
theorem aw_172 : Cond.instanceMethod yX1_turnInto ∈ AW := in_wsL_law_r8 _ (List.mem_of_getElem? (i := 4) rfl)
theorem aw_173 : Cond.selects RX1 yX1_turnInto yX1_turnInto ∈ AW := in_wsL_law_r8 _ (List.mem_of_getElem? (i := 5) rfl)
theorem aw_174 : Cond.code yX1_turnInto cX1_turnInto 2 none ∈ AW := in_wsL_law_r8 _ (List.mem_of_getElem? (i := 6) rfl)
theorem aw_175 : Cond.fieldLink RX1 9 "KnivesGround$One" "kind" "I" ∈ AW := in_wsL_law_r8 _ (List.mem_of_getElem? (i := 7) rfl)
theorem aw_176 : Cond.fieldLink RX1 15 "KnivesGround$One" "m" "I" ∈ AW := in_wsL_law_r8 _ (List.mem_of_getElem? (i := 8) rfl)
theorem aw_177 : Cond.methodLink RL 27 yX8_quarrel ∈ AW := in_wsL_law_r8 _ (List.mem_of_getElem? (i := 9) rfl)
theorem aw_178 : Cond.instanceMethod yX8_quarrel ∈ AW := in_wsL_law_r8 _ (List.mem_of_getElem? (i := 10) rfl)
theorem aw_179 : Cond.selects RX8 yX8_quarrel yX8_quarrel ∈ AW := in_wsL_law_r8 _ (List.mem_of_getElem? (i := 11) rfl)
theorem aw_180 : Cond.code yX8_quarrel cX8_quarrel 6 (some .int) ∈ AW := in_wsL_law_r8 _ (List.mem_of_getElem? (i := 12) rfl)
theorem aw_181 : Cond.constant RX8 68 (-1000000004) ∈ AW := in_wsL_law_r8 _ (List.mem_of_getElem? (i := 13) rfl)
theorem aw_182 : Cond.methodLink RX8 69 yX8_gets ∈ AW := in_wsL_law_r8 _ (List.mem_of_getElem? (i := 14) rfl)
theorem aw_183 : Cond.instanceMethod yX8_gets ∈ AW := in_wsL_law_r8 _ (List.mem_of_getElem? (i := 15) rfl)
theorem aw_184 : Cond.selects RX8 yX8_gets yX8_gets ∈ AW := in_wsL_law_r8 _ (List.mem_of_getElem? (i := 16) rfl)
theorem aw_185 : Cond.code yX8_gets cX8_gets 4 none ∈ AW := in_wsL_law_r8 _ (List.mem_of_getElem? (i := 17) rfl)
theorem aw_186 : Cond.methodLink RL 28 yX7_ofQuarrel ∈ AW := in_wsL_law_r8 _ (List.mem_of_getElem? (i := 18) rfl)
theorem aw_187 : Cond.instanceMethod yX7_ofQuarrel ∈ AW := in_wsL_law_r8 _ (List.mem_of_getElem? (i := 19) rfl)
theorem aw_188 : Cond.selects RX7 yX7_ofQuarrel yX7_ofQuarrel ∈ AW := in_wsL_law_r8 _ (List.mem_of_getElem? (i := 20) rfl)
theorem aw_189 : Cond.code yX7_ofQuarrel cX7_ofQuarrel 4 (some .int) ∈ AW := in_wsL_law_r8 _ (List.mem_of_getElem? (i := 21) rfl)
theorem aw_190 : Cond.methodLink RX7 117 yX7_isQuarrel ∈ AW := in_wsL_law_r8 _ (List.mem_of_getElem? (i := 22) rfl)
theorem aw_191 : Cond.instanceMethod yX7_isQuarrel ∈ AW := in_wsL_law_r8 _ (List.mem_of_getElem? (i := 23) rfl)
theorem aw_192 : Cond.selects RX7 yX7_isQuarrel yX7_isQuarrel ∈ AW := in_wsL_law_r9 _ (List.mem_of_getElem? (i := 0) rfl)
theorem aw_193 : Cond.code yX7_isQuarrel cX7_isQuarrel 2 (some .boolean) ∈ AW := in_wsL_law_r9 _ (List.mem_of_getElem? (i := 1) rfl)
theorem aw_194 : Cond.instanceMethod yX0_gainsOf ∈ AW := in_wsL_law_r9 _ (List.mem_of_getElem? (i := 2) rfl)
theorem aw_195 : Cond.selects RX0 yX0_gainsOf yX0_gainsOf ∈ AW := in_wsL_law_r9 _ (List.mem_of_getElem? (i := 3) rfl)
theorem aw_196 : Cond.code yX0_gainsOf cX0_gainsOf 2 (some .int) ∈ AW := in_wsL_law_r9 _ (List.mem_of_getElem? (i := 4) rfl)
theorem aw_197 : Cond.fieldLink RX0 39 "KnivesGround$Ground" "day" "I" ∈ AW := in_wsL_law_r9 _ (List.mem_of_getElem? (i := 5) rfl)
theorem aw_198 : Cond.instanceMethod yX4_gives ∈ AW := in_wsL_law_r9 _ (List.mem_of_getElem? (i := 6) rfl)
theorem aw_199 : Cond.selects RX4 yX4_gives yX4_gives ∈ AW := in_wsL_law_r9 _ (List.mem_of_getElem? (i := 7) rfl)
theorem aw_200 : Cond.code yX4_gives cX4_gives 5 (some .int) ∈ AW := in_wsL_law_r9 _ (List.mem_of_getElem? (i := 8) rfl)
theorem aw_201 : Cond.methodLink RX4 41 Lib.Math.min.name ∈ AW := in_wsL_law_r9 _ (List.mem_of_getElem? (i := 9) rfl)
theorem aw_202 : Cond.static Lib.Math.min.name ∈ AW := in_wsL_law_r9 _ (List.mem_of_getElem? (i := 10) rfl)
theorem aw_203 : Cond.initialized "java/lang/Math" ∈ AW := in_wsL_law_r9 _ (List.mem_of_getElem? (i := 11) rfl)
theorem aw_204 : Cond.code Lib.Math.min.name Lib.Math.min.code 2 (some .int) ∈ AW := in_wsL_law_r9 _ (List.mem_of_getElem? (i := 12) rfl)
theorem aw_205 : Cond.methodLink RX4 47 Lib.Math.max.name ∈ AW := in_wsL_law_r9 _ (List.mem_of_getElem? (i := 13) rfl)
theorem aw_206 : Cond.static Lib.Math.max.name ∈ AW := in_wsL_law_r9 _ (List.mem_of_getElem? (i := 14) rfl)
theorem aw_207 : Cond.code Lib.Math.max.name Lib.Math.max.code 2 (some .int) ∈ AW := in_wsL_law_r9 _ (List.mem_of_getElem? (i := 15) rfl)
theorem aw_208 : Cond.methodLink RX4 37 yX4_workedOut ∈ AW := in_wsL_law_r9 _ (List.mem_of_getElem? (i := 16) rfl)
theorem aw_209 : Cond.instanceMethod yX4_workedOut ∈ AW := in_wsL_law_r9 _ (List.mem_of_getElem? (i := 17) rfl)
theorem aw_210 : Cond.selects RX4 yX4_workedOut yX4_workedOut ∈ AW := in_wsL_law_r9 _ (List.mem_of_getElem? (i := 18) rfl)
theorem aw_211 : Cond.code yX4_workedOut cX4_workedOut 6 (some .int) ∈ AW := in_wsL_law_r9 _ (List.mem_of_getElem? (i := 19) rfl)
theorem aw_212 : Cond.methodLink RX4 50 yX4_joined ∈ AW := in_wsL_law_r9 _ (List.mem_of_getElem? (i := 20) rfl)
theorem aw_213 : Cond.static yX4_joined ∈ AW := in_wsL_law_r9 _ (List.mem_of_getElem? (i := 21) rfl)
theorem aw_214 : Cond.code yX4_joined cX4_joined 3 (some .int) ∈ AW := in_wsL_law_r9 _ (List.mem_of_getElem? (i := 22) rfl)
theorem aw_215 : Cond.instanceMethod yX1_gains ∈ AW := in_wsL_law_r9 _ (List.mem_of_getElem? (i := 23) rfl)
theorem aw_216 : Cond.selects RX1 yX1_gains yX1_gains ∈ AW := in_wsL_law_r10 _ (List.mem_of_getElem? (i := 0) rfl)
theorem aw_217 : Cond.code yX1_gains cX1_gains 3 (some .int) ∈ AW := in_wsL_law_r10 _ (List.mem_of_getElem? (i := 1) rfl)
theorem aw_218 : Cond.fieldLink RX1 27 "KnivesGround$One" "age" "I" ∈ AW := in_wsL_law_r10 _ (List.mem_of_getElem? (i := 2) rfl)
theorem aw_219 : Cond.methodLink RX1 38 Lib.Math.max.name ∈ AW := in_wsL_law_r10 _ (List.mem_of_getElem? (i := 3) rfl)
theorem aw_220 : Cond.instanceMethod yX1_needs ∈ AW := in_wsL_law_r10 _ (List.mem_of_getElem? (i := 4) rfl)
theorem aw_221 : Cond.selects RX1 yX1_needs yX1_needs ∈ AW := in_wsL_law_r10 _ (List.mem_of_getElem? (i := 5) rfl)
theorem aw_222 : Cond.code yX1_needs cX1_needs 1 (some .int) ∈ AW := in_wsL_law_r10 _ (List.mem_of_getElem? (i := 6) rfl)
theorem aw_223 : Cond.instanceMethod yX1_dulls ∈ AW := in_wsL_law_r10 _ (List.mem_of_getElem? (i := 7) rfl)
theorem aw_224 : Cond.selects RX1 yX1_dulls yX1_dulls ∈ AW := in_wsL_law_r10 _ (List.mem_of_getElem? (i := 8) rfl)
theorem aw_225 : Cond.code yX1_dulls cX1_dulls 1 (some .int) ∈ AW := in_wsL_law_r10 _ (List.mem_of_getElem? (i := 9) rfl)
theorem aw_226 : Cond.methodLink RL 31 yX8_ofQuarrel ∈ AW := in_wsL_law_r10 _ (List.mem_of_getElem? (i := 10) rfl)
theorem aw_227 : Cond.instanceMethod yX8_ofQuarrel ∈ AW := in_wsL_law_r10 _ (List.mem_of_getElem? (i := 11) rfl)
theorem aw_228 : Cond.selects RX8 yX8_ofQuarrel yX8_ofQuarrel ∈ AW := in_wsL_law_r10 _ (List.mem_of_getElem? (i := 12) rfl)
theorem aw_229 : Cond.code yX8_ofQuarrel cX8_ofQuarrel 3 (some .int) ∈ AW := in_wsL_law_r10 _ (List.mem_of_getElem? (i := 13) rfl)
theorem aw_230 : Cond.methodLink RX8 73 yX8_isQuarrel ∈ AW := in_wsL_law_r10 _ (List.mem_of_getElem? (i := 14) rfl)
theorem aw_231 : Cond.instanceMethod yX8_isQuarrel ∈ AW := in_wsL_law_r10 _ (List.mem_of_getElem? (i := 15) rfl)
theorem aw_232 : Cond.selects RX8 yX8_isQuarrel yX8_isQuarrel ∈ AW := in_wsL_law_r10 _ (List.mem_of_getElem? (i := 16) rfl)
theorem aw_233 : Cond.code yX8_isQuarrel cX8_isQuarrel 2 (some .boolean) ∈ AW := in_wsL_law_r10 _ (List.mem_of_getElem? (i := 17) rfl)
theorem aw_234 : Cond.methodLink RX8 76 yX8_gains ∈ AW := in_wsL_law_r10 _ (List.mem_of_getElem? (i := 18) rfl)
theorem aw_235 : Cond.instanceMethod yX8_gains ∈ AW := in_wsL_law_r10 _ (List.mem_of_getElem? (i := 19) rfl)
theorem aw_236 : Cond.selects RX8 yX8_gains yX8_gains ∈ AW := in_wsL_law_r10 _ (List.mem_of_getElem? (i := 20) rfl)
theorem aw_237 : Cond.code yX8_gains cX8_gains 4 (some .int) ∈ AW := in_wsL_law_r10 _ (List.mem_of_getElem? (i := 21) rfl)
theorem aw_238 : Cond.methodLink RX8 154 yX8_lawOf ∈ AW := in_wsL_law_r10 _ (List.mem_of_getElem? (i := 22) rfl)
theorem aw_239 : Cond.instanceMethod yX8_lawOf ∈ AW := in_wsL_law_r10 _ (List.mem_of_getElem? (i := 23) rfl)
theorem aw_240 : Cond.selects RX8 yX8_lawOf yX8_lawOf ∈ AW := in_wsL_law_r11 _ (List.mem_of_getElem? (i := 0) rfl)
theorem aw_241 : Cond.code yX8_lawOf cX8_lawOf 5 (some .int) ∈ AW := in_wsL_law_r11 _ (List.mem_of_getElem? (i := 1) rfl)
theorem aw_242 : Cond.methodLink RX8 147 yX8_walks ∈ AW := in_wsL_law_r11 _ (List.mem_of_getElem? (i := 2) rfl)
theorem aw_243 : Cond.instanceMethod yX8_walks ∈ AW := in_wsL_law_r11 _ (List.mem_of_getElem? (i := 3) rfl)
theorem aw_244 : Cond.selects RX8 yX8_walks yX8_walks ∈ AW := in_wsL_law_r11 _ (List.mem_of_getElem? (i := 4) rfl)
theorem aw_245 : Cond.code yX8_walks cX8_walks 9 (some .int) ∈ AW := in_wsL_law_r11 _ (List.mem_of_getElem? (i := 5) rfl)
theorem aw_246 : Cond.methodLink RX8 143 yX8_workedOut ∈ AW := in_wsL_law_r11 _ (List.mem_of_getElem? (i := 6) rfl)
theorem aw_247 : Cond.static yX8_workedOut ∈ AW := in_wsL_law_r11 _ (List.mem_of_getElem? (i := 7) rfl)
theorem aw_248 : Cond.code yX8_workedOut cX8_workedOut 3 (some .int) ∈ AW := in_wsL_law_r11 _ (List.mem_of_getElem? (i := 8) rfl)
theorem aw_249 : Cond.methodLink RX8 151 yX8_held ∈ AW := in_wsL_law_r11 _ (List.mem_of_getElem? (i := 9) rfl)
theorem aw_250 : Cond.static yX8_held ∈ AW := in_wsL_law_r11 _ (List.mem_of_getElem? (i := 10) rfl)
theorem aw_251 : Cond.code yX8_held cX8_held 3 (some .int) ∈ AW := in_wsL_law_r11 _ (List.mem_of_getElem? (i := 11) rfl)
theorem aw_252 : Cond.methodLink RX8 79 yX8_needs ∈ AW := in_wsL_law_r11 _ (List.mem_of_getElem? (i := 12) rfl)
theorem aw_253 : Cond.instanceMethod yX8_needs ∈ AW := in_wsL_law_r11 _ (List.mem_of_getElem? (i := 13) rfl)
theorem aw_254 : Cond.selects RX8 yX8_needs yX8_needs ∈ AW := in_wsL_law_r11 _ (List.mem_of_getElem? (i := 14) rfl)
theorem aw_255 : Cond.code yX8_needs cX8_needs 3 (some .int) ∈ AW := in_wsL_law_r11 _ (List.mem_of_getElem? (i := 15) rfl)
theorem aw_256 : Cond.methodLink RX8 82 yX8_dulls ∈ AW := in_wsL_law_r11 _ (List.mem_of_getElem? (i := 16) rfl)
theorem aw_257 : Cond.instanceMethod yX8_dulls ∈ AW := in_wsL_law_r11 _ (List.mem_of_getElem? (i := 17) rfl)
theorem aw_258 : Cond.selects RX8 yX8_dulls yX8_dulls ∈ AW := in_wsL_law_r11 _ (List.mem_of_getElem? (i := 18) rfl)
theorem aw_259 : Cond.code yX8_dulls cX8_dulls 2 (some .int) ∈ AW := in_wsL_law_r11 _ (List.mem_of_getElem? (i := 19) rfl)
theorem aw_260 : Cond.methodLink RL 32 yX7_change ∈ AW := in_wsL_law_r11 _ (List.mem_of_getElem? (i := 20) rfl)
theorem aw_261 : Cond.instanceMethod yX7_change ∈ AW := in_wsL_law_r11 _ (List.mem_of_getElem? (i := 21) rfl)
theorem aw_262 : Cond.selects RX7 yX7_change yX7_change ∈ AW := in_wsL_law_r11 _ (List.mem_of_getElem? (i := 22) rfl)
theorem aw_263 : Cond.code yX7_change cX7_change 4 (some .int) ∈ AW := in_wsL_law_r11 _ (List.mem_of_getElem? (i := 23) rfl)
theorem aw_264 : Cond.methodLink RX7 137 yX7_mostOfQuarrel ∈ AW := in_wsL_law_r12 _ (List.mem_of_getElem? (i := 0) rfl)
theorem aw_265 : Cond.static yX7_mostOfQuarrel ∈ AW := in_wsL_law_r12 _ (List.mem_of_getElem? (i := 1) rfl)
theorem aw_266 : Cond.code yX7_mostOfQuarrel cX7_mostOfQuarrel 1 (some .int) ∈ AW := in_wsL_law_r12 _ (List.mem_of_getElem? (i := 2) rfl)
theorem aw_267 : Cond.instanceMethod yX1_changeTo ∈ AW := in_wsL_law_r12 _ (List.mem_of_getElem? (i := 3) rfl)
theorem aw_268 : Cond.selects RX1 yX1_changeTo yX1_changeTo ∈ AW := in_wsL_law_r12 _ (List.mem_of_getElem? (i := 4) rfl)
theorem aw_269 : Cond.code yX1_changeTo cX1_changeTo 4 (some .int) ∈ AW := in_wsL_law_r12 _ (List.mem_of_getElem? (i := 5) rfl)
theorem aw_270 : Cond.fieldLink RX1 18 "KnivesGround$One" "area" "I" ∈ AW := in_wsL_law_r12 _ (List.mem_of_getElem? (i := 6) rfl)
theorem aw_271 : Cond.fieldLink RX1 21 "KnivesGround$One" "edge" "I" ∈ AW := in_wsL_law_r12 _ (List.mem_of_getElem? (i := 7) rfl)
theorem aw_272 : Cond.fieldLink RX1 30 "KnivesGround$One" "ended" "Z" ∈ AW := in_wsL_law_r12 _ (List.mem_of_getElem? (i := 8) rfl)
theorem aw_273 : Cond.methodLink RL 36 yX8_change ∈ AW := in_wsL_law_r12 _ (List.mem_of_getElem? (i := 9) rfl)
theorem aw_274 : Cond.instanceMethod yX8_change ∈ AW := in_wsL_law_r12 _ (List.mem_of_getElem? (i := 10) rfl)
theorem aw_275 : Cond.selects RX8 yX8_change yX8_change ∈ AW := in_wsL_law_r12 _ (List.mem_of_getElem? (i := 11) rfl)
theorem aw_276 : Cond.code yX8_change cX8_change 5 (some .int) ∈ AW := in_wsL_law_r12 _ (List.mem_of_getElem? (i := 12) rfl)
theorem aw_277 : Cond.methodLink RL 37 yX7_become ∈ AW := in_wsL_law_r12 _ (List.mem_of_getElem? (i := 13) rfl)
theorem aw_278 : Cond.instanceMethod yX7_become ∈ AW := in_wsL_law_r12 _ (List.mem_of_getElem? (i := 14) rfl)
theorem aw_279 : Cond.selects RX7 yX7_become yX7_become ∈ AW := in_wsL_law_r12 _ (List.mem_of_getElem? (i := 15) rfl)
theorem aw_280 : Cond.code yX7_become cX7_become 5 (some .int) ∈ AW := in_wsL_law_r12 _ (List.mem_of_getElem? (i := 16) rfl)
theorem aw_281 : Cond.methodLink RL 40 yX8_become ∈ AW := in_wsL_law_r12 _ (List.mem_of_getElem? (i := 17) rfl)
theorem aw_282 : Cond.instanceMethod yX8_become ∈ AW := in_wsL_law_r12 _ (List.mem_of_getElem? (i := 18) rfl)
theorem aw_283 : Cond.selects RX8 yX8_become yX8_become ∈ AW := in_wsL_law_r12 _ (List.mem_of_getElem? (i := 19) rfl)
theorem aw_284 : Cond.code yX8_become cX8_become 3 (some .int) ∈ AW := in_wsL_law_r12 _ (List.mem_of_getElem? (i := 20) rfl)
theorem aw_285 : Cond.methodLink RL 41 yX7_as ∈ AW := in_wsL_law_r12 _ (List.mem_of_getElem? (i := 21) rfl)
theorem aw_286 : Cond.instanceMethod yX7_as ∈ AW := in_wsL_law_r12 _ (List.mem_of_getElem? (i := 22) rfl)
theorem aw_287 : Cond.selects RX7 yX7_as yX7_as ∈ AW := in_wsL_law_r12 _ (List.mem_of_getElem? (i := 23) rfl)
theorem aw_288 : Cond.code yX7_as cX7_as 4 (some .int) ∈ AW := in_wsL_law_r13 _ (List.mem_of_getElem? (i := 0) rfl)
theorem aw_289 : Cond.constant RX7 146 (-1000000005) ∈ AW := in_wsL_law_r13 _ (List.mem_of_getElem? (i := 1) rfl)
theorem aw_290 : Cond.instanceMethod yX1_isOfKind ∈ AW := in_wsL_law_r13 _ (List.mem_of_getElem? (i := 2) rfl)
theorem aw_291 : Cond.selects RX1 yX1_isOfKind yX1_isOfKind ∈ AW := in_wsL_law_r13 _ (List.mem_of_getElem? (i := 3) rfl)
theorem aw_292 : Cond.code yX1_isOfKind cX1_isOfKind 2 (some .boolean) ∈ AW := in_wsL_law_r13 _ (List.mem_of_getElem? (i := 4) rfl)
theorem aw_293 : Cond.methodLink RL 44 yX8_as ∈ AW := in_wsL_law_r13 _ (List.mem_of_getElem? (i := 5) rfl)
theorem aw_294 : Cond.instanceMethod yX8_as ∈ AW := in_wsL_law_r13 _ (List.mem_of_getElem? (i := 6) rfl)
theorem aw_295 : Cond.selects RX8 yX8_as yX8_as ∈ AW := in_wsL_law_r13 _ (List.mem_of_getElem? (i := 7) rfl)
theorem aw_296 : Cond.code yX8_as cX8_as 4 (some .int) ∈ AW := in_wsL_law_r13 _ (List.mem_of_getElem? (i := 8) rfl)
theorem aw_297 : Cond.constant RX8 88 (-1000000005) ∈ AW := in_wsL_law_r13 _ (List.mem_of_getElem? (i := 9) rfl)
theorem aw_298 : Cond.methodLink RX8 85 yX8_above ∈ AW := in_wsL_law_r13 _ (List.mem_of_getElem? (i := 10) rfl)
theorem aw_299 : Cond.static yX8_above ∈ AW := in_wsL_law_r13 _ (List.mem_of_getElem? (i := 11) rfl)
theorem aw_300 : Cond.code yX8_above cX8_above 1 (some .int) ∈ AW := in_wsL_law_r13 _ (List.mem_of_getElem? (i := 12) rfl)
theorem aw_301 : Cond.methodLink RL 47 yX7_feed ∈ AW := in_wsL_law_r13 _ (List.mem_of_getElem? (i := 13) rfl)
theorem aw_302 : Cond.instanceMethod yX7_feed ∈ AW := in_wsL_law_r13 _ (List.mem_of_getElem? (i := 14) rfl)
theorem aw_303 : Cond.selects RX7 yX7_feed yX7_feed ∈ AW := in_wsL_law_r13 _ (List.mem_of_getElem? (i := 15) rfl)
theorem aw_304 : Cond.code yX7_feed cX7_feed 5 (some .int) ∈ AW := in_wsL_law_r13 _ (List.mem_of_getElem? (i := 16) rfl)
theorem aw_305 : Cond.methodLink RL 51 yX8_feed ∈ AW := in_wsL_law_r13 _ (List.mem_of_getElem? (i := 17) rfl)
theorem aw_306 : Cond.instanceMethod yX8_feed ∈ AW := in_wsL_law_r13 _ (List.mem_of_getElem? (i := 18) rfl)
theorem aw_307 : Cond.selects RX8 yX8_feed yX8_feed ∈ AW := in_wsL_law_r13 _ (List.mem_of_getElem? (i := 19) rfl)
theorem aw_308 : Cond.code yX8_feed cX8_feed 5 (some .int) ∈ AW := in_wsL_law_r13 _ (List.mem_of_getElem? (i := 20) rfl)
theorem aw_309 : Cond.constantLong RX8 157 (255) ∈ AW := in_wsL_law_r13 _ (List.mem_of_getElem? (i := 21) rfl)
theorem aw_310 : Cond.methodLink RL 52 yX7_text ∈ AW := in_wsL_law_r13 _ (List.mem_of_getElem? (i := 22) rfl)
theorem aw_311 : Cond.instanceMethod yX7_text ∈ AW := in_wsL_law_r13 _ (List.mem_of_getElem? (i := 23) rfl)
theorem aw_312 : Cond.selects RX7 yX7_text yX7_text ∈ AW := in_wsL_law_r14 _ (List.mem_of_getElem? (i := 0) rfl)
theorem aw_313 : Cond.code yX7_text cX7_text 3 (some .int) ∈ AW := in_wsL_law_r14 _ (List.mem_of_getElem? (i := 1) rfl)
theorem aw_314 : Cond.instanceMethod yX2_read ∈ AW := in_wsL_law_r14 _ (List.mem_of_getElem? (i := 2) rfl)
theorem aw_315 : Cond.selects RX2 yX2_read yX2_read ∈ AW := in_wsL_law_r14 _ (List.mem_of_getElem? (i := 3) rfl)
theorem aw_316 : Cond.code yX2_read cX2_read 4 (some .int) ∈ AW := in_wsL_law_r14 _ (List.mem_of_getElem? (i := 4) rfl)
theorem aw_317 : Cond.methodLink RX2 22 Lib.Math.min.name ∈ AW := in_wsL_law_r14 _ (List.mem_of_getElem? (i := 5) rfl)
theorem aw_318 : Cond.fieldLink RX2 28 "KnivesGround$Reader" "many" "I" ∈ AW := in_wsL_law_r14 _ (List.mem_of_getElem? (i := 6) rfl)
theorem aw_319 : Cond.methodLink RX2 32 arraycopyName ∈ AW := in_wsL_law_r14 _ (List.mem_of_getElem? (i := 7) rfl)
theorem aw_320 : Cond.native arraycopyName ∈ AW := in_wsL_law_r14 _ (List.mem_of_getElem? (i := 8) rfl)
theorem aw_321 : Cond.static arraycopyName ∈ AW := in_wsL_law_r14 _ (List.mem_of_getElem? (i := 9) rfl)
theorem aw_322 : Cond.initialized "java/lang/System" ∈ AW := in_wsL_law_r14 _ (List.mem_of_getElem? (i := 10) rfl)
theorem aw_323 : Cond.fieldLink RX2 38 "KnivesGround$Reader" "place" "I" ∈ AW := in_wsL_law_r14 _ (List.mem_of_getElem? (i := 11) rfl)
theorem aw_324 : Cond.fieldLink RX2 41 "KnivesGround$Reader" "fault" "I" ∈ AW := in_wsL_law_r14 _ (List.mem_of_getElem? (i := 12) rfl)
theorem aw_325 : Cond.methodLink RX2 48 yX2_readLevel ∈ AW := in_wsL_law_r14 _ (List.mem_of_getElem? (i := 13) rfl)
theorem aw_326 : Cond.instanceMethod yX2_readLevel ∈ AW := in_wsL_law_r14 _ (List.mem_of_getElem? (i := 14) rfl)
theorem aw_327 : Cond.selects RX2 yX2_readLevel yX2_readLevel ∈ AW := in_wsL_law_r14 _ (List.mem_of_getElem? (i := 15) rfl)
theorem aw_328 : Cond.code yX2_readLevel cX2_readLevel 8 (some .int) ∈ AW := in_wsL_law_r14 _ (List.mem_of_getElem? (i := 16) rfl)
theorem aw_329 : Cond.methodLink RX2 51 yX2_readInnermost ∈ AW := in_wsL_law_r14 _ (List.mem_of_getElem? (i := 17) rfl)
theorem aw_330 : Cond.instanceMethod yX2_readInnermost ∈ AW := in_wsL_law_r14 _ (List.mem_of_getElem? (i := 18) rfl)
theorem aw_331 : Cond.selects RX2 yX2_readInnermost yX2_readInnermost ∈ AW := in_wsL_law_r14 _ (List.mem_of_getElem? (i := 19) rfl)
theorem aw_332 : Cond.methodLink RX2 55 yX2_next ∈ AW := in_wsL_law_r14 _ (List.mem_of_getElem? (i := 20) rfl)
theorem aw_333 : Cond.instanceMethod yX2_next ∈ AW := in_wsL_law_r14 _ (List.mem_of_getElem? (i := 21) rfl)
theorem aw_334 : Cond.selects RX2 yX2_next yX2_next ∈ AW := in_wsL_law_r14 _ (List.mem_of_getElem? (i := 22) rfl)
theorem aw_335 : Cond.code yX2_next cX2_next 1 (some .int) ∈ AW := in_wsL_law_r14 _ (List.mem_of_getElem? (i := 23) rfl)
theorem aw_336 : Cond.methodLink RX2 59 yX2_levelOf ∈ AW := in_wsL_law_r15 _ (List.mem_of_getElem? (i := 0) rfl)
theorem aw_337 : Cond.static yX2_levelOf ∈ AW := in_wsL_law_r15 _ (List.mem_of_getElem? (i := 1) rfl)
theorem aw_338 : Cond.code yX2_levelOf cX2_levelOf 1 (some .int) ∈ AW := in_wsL_law_r15 _ (List.mem_of_getElem? (i := 2) rfl)
theorem aw_339 : Cond.instanceMethod yX4_add ∈ AW := in_wsL_law_r15 _ (List.mem_of_getElem? (i := 3) rfl)
theorem aw_340 : Cond.selects RX4 yX4_add yX4_add ∈ AW := in_wsL_law_r15 _ (List.mem_of_getElem? (i := 4) rfl)
theorem aw_341 : Cond.code yX4_add cX4_add 4 (some .int) ∈ AW := in_wsL_law_r15 _ (List.mem_of_getElem? (i := 5) rfl)
theorem aw_342 : Cond.code yX2_readBrackets cX2_readBrackets 3 (some .int) ∈ AW := in_wsL_law_r15 _ (List.mem_of_getElem? (i := 6) rfl)
theorem aw_343 : Cond.methodLink RX2 82 yX2_stop ∈ AW := in_wsL_law_r15 _ (List.mem_of_getElem? (i := 7) rfl)
theorem aw_344 : Cond.instanceMethod yX2_stop ∈ AW := in_wsL_law_r15 _ (List.mem_of_getElem? (i := 8) rfl)
theorem aw_345 : Cond.selects RX2 yX2_stop yX2_stop ∈ AW := in_wsL_law_r15 _ (List.mem_of_getElem? (i := 9) rfl)
theorem aw_346 : Cond.code yX2_stop cX2_stop 1 (some .int) ∈ AW := in_wsL_law_r15 _ (List.mem_of_getElem? (i := 10) rfl)
theorem aw_347 : Cond.code yX2_readInnermost cX2_readInnermost 3 (some .int) ∈ AW := in_wsL_law_r15 _ (List.mem_of_getElem? (i := 11) rfl)
theorem aw_348 : Cond.methodLink RX2 66 yX2_isDigit ∈ AW := in_wsL_law_r15 _ (List.mem_of_getElem? (i := 12) rfl)
theorem aw_349 : Cond.static yX2_isDigit ∈ AW := in_wsL_law_r15 _ (List.mem_of_getElem? (i := 13) rfl)
theorem aw_350 : Cond.code yX2_isDigit cX2_isDigit 1 (some .boolean) ∈ AW := in_wsL_law_r15 _ (List.mem_of_getElem? (i := 14) rfl)
theorem aw_351 : Cond.methodLink RX2 70 yX2_readNumber ∈ AW := in_wsL_law_r15 _ (List.mem_of_getElem? (i := 15) rfl)
theorem aw_352 : Cond.instanceMethod yX2_readNumber ∈ AW := in_wsL_law_r15 _ (List.mem_of_getElem? (i := 16) rfl)
theorem aw_353 : Cond.selects RX2 yX2_readNumber yX2_readNumber ∈ AW := in_wsL_law_r15 _ (List.mem_of_getElem? (i := 17) rfl)
theorem aw_354 : Cond.code yX2_readNumber cX2_readNumber 3 (some .int) ∈ AW := in_wsL_law_r15 _ (List.mem_of_getElem? (i := 18) rfl)
theorem aw_355 : Cond.methodLink RX2 73 yX2_nameOf ∈ AW := in_wsL_law_r15 _ (List.mem_of_getElem? (i := 19) rfl)
theorem aw_356 : Cond.instanceMethod yX2_nameOf ∈ AW := in_wsL_law_r15 _ (List.mem_of_getElem? (i := 20) rfl)
theorem aw_357 : Cond.selects RX2 yX2_nameOf yX2_nameOf ∈ AW := in_wsL_law_r15 _ (List.mem_of_getElem? (i := 21) rfl)
theorem aw_358 : Cond.code yX2_nameOf cX2_nameOf 2 (some .int) ∈ AW := in_wsL_law_r15 _ (List.mem_of_getElem? (i := 22) rfl)
theorem aw_359 : Cond.methodLink RX2 76 yX2_readNot ∈ AW := in_wsL_law_r15 _ (List.mem_of_getElem? (i := 23) rfl)
theorem aw_360 : Cond.instanceMethod yX2_readNot ∈ AW := in_wsL_law_r16 _ (List.mem_of_getElem? (i := 0) rfl)
theorem aw_361 : Cond.selects RX2 yX2_readNot yX2_readNot ∈ AW := in_wsL_law_r16 _ (List.mem_of_getElem? (i := 1) rfl)
theorem aw_362 : Cond.methodLink RX2 79 yX2_readBrackets ∈ AW := in_wsL_law_r16 _ (List.mem_of_getElem? (i := 2) rfl)
theorem aw_363 : Cond.instanceMethod yX2_readBrackets ∈ AW := in_wsL_law_r16 _ (List.mem_of_getElem? (i := 3) rfl)
theorem aw_364 : Cond.selects RX2 yX2_readBrackets yX2_readBrackets ∈ AW := in_wsL_law_r16 _ (List.mem_of_getElem? (i := 4) rfl)
theorem aw_365 : Cond.code yX2_readNot cX2_readNot 3 (some .int) ∈ AW := in_wsL_law_r16 _ (List.mem_of_getElem? (i := 5) rfl)
theorem aw_366 : Cond.instanceMethod yX6_textOf ∈ AW := in_wsL_law_r16 _ (List.mem_of_getElem? (i := 6) rfl)
theorem aw_367 : Cond.selects RX6 yX6_textOf yX6_textOf ∈ AW := in_wsL_law_r16 _ (List.mem_of_getElem? (i := 7) rfl)
theorem aw_368 : Cond.code yX6_textOf cX6_textOf 2 (some (.object "KnivesGround$Text")) ∈ AW := in_wsL_law_r16 _ (List.mem_of_getElem? (i := 8) rfl)
theorem aw_369 : Cond.instanceMethod yX4_copyFrom ∈ AW := in_wsL_law_r16 _ (List.mem_of_getElem? (i := 9) rfl)
theorem aw_370 : Cond.selects RX4 yX4_copyFrom yX4_copyFrom ∈ AW := in_wsL_law_r16 _ (List.mem_of_getElem? (i := 10) rfl)
theorem aw_371 : Cond.code yX4_copyFrom cX4_copyFrom 2 none ∈ AW := in_wsL_law_r16 _ (List.mem_of_getElem? (i := 11) rfl)
theorem aw_372 : Cond.methodLink RX4 31 arraycopyName ∈ AW := in_wsL_law_r16 _ (List.mem_of_getElem? (i := 12) rfl)
theorem aw_373 : Cond.methodLink RL 55 yX8_text ∈ AW := in_wsL_law_r16 _ (List.mem_of_getElem? (i := 13) rfl)
theorem aw_374 : Cond.instanceMethod yX8_text ∈ AW := in_wsL_law_r16 _ (List.mem_of_getElem? (i := 14) rfl)
theorem aw_375 : Cond.selects RX8 yX8_text yX8_text ∈ AW := in_wsL_law_r16 _ (List.mem_of_getElem? (i := 15) rfl)
theorem aw_376 : Cond.code yX8_text cX8_text 3 (some .int) ∈ AW := in_wsL_law_r16 _ (List.mem_of_getElem? (i := 16) rfl)
theorem aw_377 : Cond.fieldLink RX8 113 "KnivesGroundModel" "use" "I" ∈ AW := in_wsL_law_r16 _ (List.mem_of_getElem? (i := 17) rfl)
theorem aw_378 : Cond.fieldLink RX8 100 "KnivesGroundModel" "at" "I" ∈ AW := in_wsL_law_r16 _ (List.mem_of_getElem? (i := 18) rfl)
theorem aw_379 : Cond.fieldLink RX8 89 "KnivesGroundModel" "end" "I" ∈ AW := in_wsL_law_r16 _ (List.mem_of_getElem? (i := 19) rfl)
theorem aw_380 : Cond.fieldLink RX8 122 "KnivesGroundModel" "open" "I" ∈ AW := in_wsL_law_r16 _ (List.mem_of_getElem? (i := 20) rfl)
theorem aw_381 : Cond.fieldLink RX8 97 "KnivesGroundModel" "steps" "I" ∈ AW := in_wsL_law_r16 _ (List.mem_of_getElem? (i := 21) rfl)
theorem aw_382 : Cond.fieldLink RX8 93 "KnivesGroundModel" "good" "Z" ∈ AW := in_wsL_law_r16 _ (List.mem_of_getElem? (i := 22) rfl)
theorem aw_383 : Cond.methodLink RX8 128 yX8_whole ∈ AW := in_wsL_law_r16 _ (List.mem_of_getElem? (i := 23) rfl)
theorem aw_384 : Cond.instanceMethod yX8_whole ∈ AW := in_wsL_law_r17 _ (List.mem_of_getElem? (i := 0) rfl)
theorem aw_385 : Cond.selects RX8 yX8_whole yX8_whole ∈ AW := in_wsL_law_r17 _ (List.mem_of_getElem? (i := 1) rfl)
theorem aw_386 : Cond.code yX8_whole cX8_whole 1 none ∈ AW := in_wsL_law_r17 _ (List.mem_of_getElem? (i := 2) rfl)
theorem aw_387 : Cond.methodLink RX8 140 yX8_both ∈ AW := in_wsL_law_r17 _ (List.mem_of_getElem? (i := 3) rfl)
theorem aw_388 : Cond.instanceMethod yX8_both ∈ AW := in_wsL_law_r17 _ (List.mem_of_getElem? (i := 4) rfl)
theorem aw_389 : Cond.selects RX8 yX8_both yX8_both ∈ AW := in_wsL_law_r17 _ (List.mem_of_getElem? (i := 5) rfl)
theorem aw_390 : Cond.methodLink RX8 103 yX8_byteAt ∈ AW := in_wsL_law_r17 _ (List.mem_of_getElem? (i := 6) rfl)
theorem aw_391 : Cond.instanceMethod yX8_byteAt ∈ AW := in_wsL_law_r17 _ (List.mem_of_getElem? (i := 7) rfl)
theorem aw_392 : Cond.selects RX8 yX8_byteAt yX8_byteAt ∈ AW := in_wsL_law_r17 _ (List.mem_of_getElem? (i := 8) rfl)
theorem aw_393 : Cond.code yX8_byteAt cX8_byteAt 2 (some .int) ∈ AW := in_wsL_law_r17 _ (List.mem_of_getElem? (i := 9) rfl)
theorem aw_394 : Cond.methodLink RX8 109 yX8_adds ∈ AW := in_wsL_law_r17 _ (List.mem_of_getElem? (i := 10) rfl)
theorem aw_395 : Cond.instanceMethod yX8_adds ∈ AW := in_wsL_law_r17 _ (List.mem_of_getElem? (i := 11) rfl)
theorem aw_396 : Cond.selects RX8 yX8_adds yX8_adds ∈ AW := in_wsL_law_r17 _ (List.mem_of_getElem? (i := 12) rfl)
theorem aw_397 : Cond.code yX8_adds cX8_adds 2 none ∈ AW := in_wsL_law_r17 _ (List.mem_of_getElem? (i := 13) rfl)
theorem aw_398 : Cond.code yX8_both cX8_both 1 none ∈ AW := in_wsL_law_r17 _ (List.mem_of_getElem? (i := 14) rfl)
theorem aw_399 : Cond.methodLink RX8 137 yX8_compared ∈ AW := in_wsL_law_r17 _ (List.mem_of_getElem? (i := 15) rfl)
theorem aw_400 : Cond.instanceMethod yX8_compared ∈ AW := in_wsL_law_r17 _ (List.mem_of_getElem? (i := 16) rfl)
theorem aw_401 : Cond.selects RX8 yX8_compared yX8_compared ∈ AW := in_wsL_law_r17 _ (List.mem_of_getElem? (i := 17) rfl)
theorem aw_402 : Cond.code yX8_compared cX8_compared 2 none ∈ AW := in_wsL_law_r17 _ (List.mem_of_getElem? (i := 18) rfl)
theorem aw_403 : Cond.methodLink RX8 134 yX8_sum ∈ AW := in_wsL_law_r17 _ (List.mem_of_getElem? (i := 19) rfl)
theorem aw_404 : Cond.instanceMethod yX8_sum ∈ AW := in_wsL_law_r17 _ (List.mem_of_getElem? (i := 20) rfl)
theorem aw_405 : Cond.selects RX8 yX8_sum yX8_sum ∈ AW := in_wsL_law_r17 _ (List.mem_of_getElem? (i := 21) rfl)
theorem aw_406 : Cond.code yX8_factor cX8_factor 2 none ∈ AW := in_wsL_law_r17 _ (List.mem_of_getElem? (i := 22) rfl)
theorem aw_407 : Cond.methodLink RX8 106 yX8_isDigit ∈ AW := in_wsL_law_r17 _ (List.mem_of_getElem? (i := 23) rfl)
theorem aw_408 : Cond.static yX8_isDigit ∈ AW := in_wsL_law_r18 _ (List.mem_of_getElem? (i := 0) rfl)
theorem aw_409 : Cond.code yX8_isDigit cX8_isDigit 1 (some .boolean) ∈ AW := in_wsL_law_r18 _ (List.mem_of_getElem? (i := 1) rfl)
theorem aw_410 : Cond.methodLink RX8 116 yX8_number ∈ AW := in_wsL_law_r18 _ (List.mem_of_getElem? (i := 2) rfl)
theorem aw_411 : Cond.instanceMethod yX8_number ∈ AW := in_wsL_law_r18 _ (List.mem_of_getElem? (i := 3) rfl)
theorem aw_412 : Cond.selects RX8 yX8_number yX8_number ∈ AW := in_wsL_law_r18 _ (List.mem_of_getElem? (i := 4) rfl)
theorem aw_413 : Cond.code yX8_number cX8_number 3 none ∈ AW := in_wsL_law_r18 _ (List.mem_of_getElem? (i := 5) rfl)
theorem aw_414 : Cond.methodLink RX8 119 yX8_named ∈ AW := in_wsL_law_r18 _ (List.mem_of_getElem? (i := 6) rfl)
theorem aw_415 : Cond.instanceMethod yX8_named ∈ AW := in_wsL_law_r18 _ (List.mem_of_getElem? (i := 7) rfl)
theorem aw_416 : Cond.selects RX8 yX8_named yX8_named ∈ AW := in_wsL_law_r18 _ (List.mem_of_getElem? (i := 8) rfl)
theorem aw_417 : Cond.code yX8_named cX8_named 5 none ∈ AW := in_wsL_law_r18 _ (List.mem_of_getElem? (i := 9) rfl)
theorem aw_418 : Cond.methodLink RX8 125 yX8_factor ∈ AW := in_wsL_law_r18 _ (List.mem_of_getElem? (i := 10) rfl)
theorem aw_419 : Cond.instanceMethod yX8_factor ∈ AW := in_wsL_law_r18 _ (List.mem_of_getElem? (i := 11) rfl)
theorem aw_420 : Cond.selects RX8 yX8_factor yX8_factor ∈ AW := in_wsL_law_r18 _ (List.mem_of_getElem? (i := 12) rfl)
theorem aw_421 : Cond.code yX8_product cX8_product 2 none ∈ AW := in_wsL_law_r18 _ (List.mem_of_getElem? (i := 13) rfl)
theorem aw_422 : Cond.code yX8_sum cX8_sum 2 none ∈ AW := in_wsL_law_r18 _ (List.mem_of_getElem? (i := 14) rfl)
theorem aw_423 : Cond.methodLink RX8 131 yX8_product ∈ AW := in_wsL_law_r18 _ (List.mem_of_getElem? (i := 15) rfl)
theorem aw_424 : Cond.instanceMethod yX8_product ∈ AW := in_wsL_law_r18 _ (List.mem_of_getElem? (i := 16) rfl)
theorem aw_425 : Cond.selects RX8 yX8_product yX8_product ∈ AW := in_wsL_law_r18 _ (List.mem_of_getElem? (i := 17) rfl)
theorem aw_426 : Cond.methodLink RL 56 yX7_law ∈ AW := in_wsL_law_r18 _ (List.mem_of_getElem? (i := 18) rfl)
theorem aw_427 : Cond.instanceMethod yX7_law ∈ AW := in_wsL_law_r18 _ (List.mem_of_getElem? (i := 19) rfl)
theorem aw_428 : Cond.selects RX7 yX7_law yX7_law ∈ AW := in_wsL_law_r18 _ (List.mem_of_getElem? (i := 20) rfl)
theorem aw_429 : Cond.code yX7_law cX7_law 5 (some .int) ∈ AW := in_wsL_law_r18 _ (List.mem_of_getElem? (i := 21) rfl)
theorem aw_430 : Cond.methodLink RL 59 yX8_law ∈ AW := in_wsL_law_r18 _ (List.mem_of_getElem? (i := 22) rfl)
theorem aw_431 : Cond.instanceMethod yX8_law ∈ AW := in_wsL_law_r18 _ (List.mem_of_getElem? (i := 23) rfl)
theorem aw_432 : Cond.selects RX8 yX8_law yX8_law ∈ AW := in_wsL_law_r19 _ (List.mem_of_getElem? (i := 0) rfl)
theorem aw_433 : Cond.code yX8_law cX8_law 5 (some .int) ∈ AW := in_wsL_law_r19 _ (List.mem_of_getElem? (i := 1) rfl)
theorem aw_434 : Cond.methodLink RL 60 yX7_days ∈ AW := in_wsL_law_r19 _ (List.mem_of_getElem? (i := 2) rfl)
theorem aw_435 : Cond.instanceMethod yX7_days ∈ AW := in_wsL_law_r19 _ (List.mem_of_getElem? (i := 3) rfl)
theorem aw_436 : Cond.selects RX7 yX7_days yX7_days ∈ AW := in_wsL_law_r19 _ (List.mem_of_getElem? (i := 4) rfl)
theorem aw_437 : Cond.code yX7_days cX7_days 3 (some .int) ∈ AW := in_wsL_law_r19 _ (List.mem_of_getElem? (i := 5) rfl)
theorem aw_438 : Cond.constant RX7 177 (-1000000003) ∈ AW := in_wsL_law_r19 _ (List.mem_of_getElem? (i := 6) rfl)
theorem aw_439 : Cond.instanceMethod yX0_passDay ∈ AW := in_wsL_law_r19 _ (List.mem_of_getElem? (i := 7) rfl)
theorem aw_440 : Cond.selects RX0 yX0_passDay yX0_passDay ∈ AW := in_wsL_law_r19 _ (List.mem_of_getElem? (i := 8) rfl)
theorem aw_441 : Cond.code yX0_passDay cX0_passDay 2 none ∈ AW := in_wsL_law_r19 _ (List.mem_of_getElem? (i := 9) rfl)
theorem aw_442 : Cond.methodLink RX0 48 yX0_grindArea ∈ AW := in_wsL_law_r19 _ (List.mem_of_getElem? (i := 10) rfl)
theorem aw_443 : Cond.instanceMethod yX0_grindArea ∈ AW := in_wsL_law_r19 _ (List.mem_of_getElem? (i := 11) rfl)
theorem aw_444 : Cond.selects RX0 yX0_grindArea yX0_grindArea ∈ AW := in_wsL_law_r19 _ (List.mem_of_getElem? (i := 12) rfl)
theorem aw_445 : Cond.code yX0_grindArea cX0_grindArea 3 none ∈ AW := in_wsL_law_r19 _ (List.mem_of_getElem? (i := 13) rfl)
theorem aw_446 : Cond.methodLink RX0 72 Lib.Math.min.name ∈ AW := in_wsL_law_r19 _ (List.mem_of_getElem? (i := 14) rfl)
theorem aw_447 : Cond.constant RX0 78 (99999) ∈ AW := in_wsL_law_r19 _ (List.mem_of_getElem? (i := 15) rfl)
theorem aw_448 : Cond.methodLink RX0 68 yX0_gainsOf ∈ AW := in_wsL_law_r19 _ (List.mem_of_getElem? (i := 16) rfl)
theorem aw_449 : Cond.methodLink RX0 51 yX0_restDay ∈ AW := in_wsL_law_r19 _ (List.mem_of_getElem? (i := 17) rfl)
theorem aw_450 : Cond.instanceMethod yX0_restDay ∈ AW := in_wsL_law_r19 _ (List.mem_of_getElem? (i := 18) rfl)
theorem aw_451 : Cond.selects RX0 yX0_restDay yX0_restDay ∈ AW := in_wsL_law_r19 _ (List.mem_of_getElem? (i := 19) rfl)
theorem aw_452 : Cond.code yX0_restDay cX0_restDay 2 none ∈ AW := in_wsL_law_r19 _ (List.mem_of_getElem? (i := 20) rfl)
theorem aw_453 : Cond.methodLink RX0 55 yX0_endOrDull ∈ AW := in_wsL_law_r19 _ (List.mem_of_getElem? (i := 21) rfl)
theorem aw_454 : Cond.instanceMethod yX0_endOrDull ∈ AW := in_wsL_law_r19 _ (List.mem_of_getElem? (i := 22) rfl)
theorem aw_455 : Cond.selects RX0 yX0_endOrDull yX0_endOrDull ∈ AW := in_wsL_law_r19 _ (List.mem_of_getElem? (i := 23) rfl)
theorem aw_456 : Cond.code yX0_endOrDull cX0_endOrDull 4 none ∈ AW := in_wsL_law_r20 _ (List.mem_of_getElem? (i := 0) rfl)
theorem aw_457 : Cond.methodLink RX0 102 Lib.Math.max.name ∈ AW := in_wsL_law_r20 _ (List.mem_of_getElem? (i := 1) rfl)
theorem aw_458 : Cond.methodLink RX0 83 yX0_isFree ∈ AW := in_wsL_law_r20 _ (List.mem_of_getElem? (i := 2) rfl)
theorem aw_459 : Cond.instanceMethod yX0_isFree ∈ AW := in_wsL_law_r20 _ (List.mem_of_getElem? (i := 3) rfl)
theorem aw_460 : Cond.selects RX0 yX0_isFree yX0_isFree ∈ AW := in_wsL_law_r20 _ (List.mem_of_getElem? (i := 4) rfl)
theorem aw_461 : Cond.code yX0_isFree cX0_isFree 2 (some .boolean) ∈ AW := in_wsL_law_r20 _ (List.mem_of_getElem? (i := 5) rfl)
theorem aw_462 : Cond.instanceMethod yX0_endedMany ∈ AW := in_wsL_law_r20 _ (List.mem_of_getElem? (i := 6) rfl)
theorem aw_463 : Cond.selects RX0 yX0_endedMany yX0_endedMany ∈ AW := in_wsL_law_r20 _ (List.mem_of_getElem? (i := 7) rfl)
theorem aw_464 : Cond.code yX0_endedMany cX0_endedMany 1 (some .int) ∈ AW := in_wsL_law_r20 _ (List.mem_of_getElem? (i := 8) rfl)
theorem aw_465 : Cond.methodLink RX0 122 yX0_setEnded ∈ AW := in_wsL_law_r20 _ (List.mem_of_getElem? (i := 9) rfl)
theorem aw_466 : Cond.instanceMethod yX0_setEnded ∈ AW := in_wsL_law_r20 _ (List.mem_of_getElem? (i := 10) rfl)
theorem aw_467 : Cond.selects RX0 yX0_setEnded yX0_setEnded ∈ AW := in_wsL_law_r20 _ (List.mem_of_getElem? (i := 11) rfl)
theorem aw_468 : Cond.code yX0_setEnded cX0_setEnded 3 (some .int) ∈ AW := in_wsL_law_r20 _ (List.mem_of_getElem? (i := 12) rfl)
theorem aw_469 : Cond.methodLink RX0 125 yJ6_bitCount_0f7a4 ∈ AW := in_wsL_law_r20 _ (List.mem_of_getElem? (i := 13) rfl)
theorem aw_470 : Cond.static yJ6_bitCount_0f7a4 ∈ AW := in_wsL_law_r20 _ (List.mem_of_getElem? (i := 14) rfl)
theorem aw_471 : Cond.initialized RJ6 ∈ AW := in_wsL_law_r20 _ (List.mem_of_getElem? (i := 15) rfl)
theorem aw_472 : Cond.code yJ6_bitCount_0f7a4 cJ6_bitCount_0f7a4 1 (some .int) ∈ AW := in_wsL_law_r20 _ (List.mem_of_getElem? (i := 16) rfl)
theorem aw_473 : Cond.constant RJ6 265 (1431655765) ∈ AW := in_wsL_law_r20 _ (List.mem_of_getElem? (i := 17) rfl)
theorem aw_474 : Cond.constant RJ6 266 (858993459) ∈ AW := in_wsL_law_r20 _ (List.mem_of_getElem? (i := 18) rfl)
theorem aw_475 : Cond.constant RJ6 267 (252645135) ∈ AW := in_wsL_law_r20 _ (List.mem_of_getElem? (i := 19) rfl)
theorem aw_476 : Cond.methodLink RL 63 yX8_days ∈ AW := in_wsL_law_r20 _ (List.mem_of_getElem? (i := 20) rfl)
theorem aw_477 : Cond.instanceMethod yX8_days ∈ AW := in_wsL_law_r20 _ (List.mem_of_getElem? (i := 21) rfl)
theorem aw_478 : Cond.selects RX8 yX8_days yX8_days ∈ AW := in_wsL_law_r20 _ (List.mem_of_getElem? (i := 22) rfl)
theorem aw_479 : Cond.code yX8_days cX8_days 2 (some .int) ∈ AW := in_wsL_law_r20 _ (List.mem_of_getElem? (i := 23) rfl)
theorem aw_480 : Cond.constant RX8 186 (-1000000003) ∈ AW := in_wsL_law_r21 _ (List.mem_of_getElem? (i := 0) rfl)
theorem aw_481 : Cond.methodLink RX8 179 yX8_passes ∈ AW := in_wsL_law_r21 _ (List.mem_of_getElem? (i := 1) rfl)
theorem aw_482 : Cond.instanceMethod yX8_passes ∈ AW := in_wsL_law_r21 _ (List.mem_of_getElem? (i := 2) rfl)
theorem aw_483 : Cond.selects RX8 yX8_passes yX8_passes ∈ AW := in_wsL_law_r21 _ (List.mem_of_getElem? (i := 3) rfl)
theorem aw_484 : Cond.code yX8_passes cX8_passes 3 none ∈ AW := in_wsL_law_r21 _ (List.mem_of_getElem? (i := 4) rfl)
theorem aw_485 : Cond.methodLink RX8 171 yX8_oneDay ∈ AW := in_wsL_law_r21 _ (List.mem_of_getElem? (i := 5) rfl)
theorem aw_486 : Cond.instanceMethod yX8_oneDay ∈ AW := in_wsL_law_r21 _ (List.mem_of_getElem? (i := 6) rfl)
theorem aw_487 : Cond.selects RX8 yX8_oneDay yX8_oneDay ∈ AW := in_wsL_law_r21 _ (List.mem_of_getElem? (i := 7) rfl)
theorem aw_488 : Cond.code yX8_oneDay cX8_oneDay 3 none ∈ AW := in_wsL_law_r21 _ (List.mem_of_getElem? (i := 8) rfl)
theorem aw_489 : Cond.methodLink RX8 165 yX8_grindsAll ∈ AW := in_wsL_law_r21 _ (List.mem_of_getElem? (i := 9) rfl)
theorem aw_490 : Cond.instanceMethod yX8_grindsAll ∈ AW := in_wsL_law_r21 _ (List.mem_of_getElem? (i := 10) rfl)
theorem aw_491 : Cond.selects RX8 yX8_grindsAll yX8_grindsAll ∈ AW := in_wsL_law_r21 _ (List.mem_of_getElem? (i := 11) rfl)
theorem aw_492 : Cond.code yX8_grindsAll cX8_grindsAll 2 none ∈ AW := in_wsL_law_r21 _ (List.mem_of_getElem? (i := 12) rfl)
theorem aw_493 : Cond.methodLink RX8 159 yX8_isOver ∈ AW := in_wsL_law_r21 _ (List.mem_of_getElem? (i := 13) rfl)
theorem aw_494 : Cond.instanceMethod yX8_isOver ∈ AW := in_wsL_law_r21 _ (List.mem_of_getElem? (i := 14) rfl)
theorem aw_495 : Cond.selects RX8 yX8_isOver yX8_isOver ∈ AW := in_wsL_law_r21 _ (List.mem_of_getElem? (i := 15) rfl)
theorem aw_496 : Cond.code yX8_isOver cX8_isOver 2 (some .boolean) ∈ AW := in_wsL_law_r21 _ (List.mem_of_getElem? (i := 16) rfl)
theorem aw_497 : Cond.methodLink RX8 168 yX8_goesOn ∈ AW := in_wsL_law_r21 _ (List.mem_of_getElem? (i := 17) rfl)
theorem aw_498 : Cond.instanceMethod yX8_goesOn ∈ AW := in_wsL_law_r21 _ (List.mem_of_getElem? (i := 18) rfl)
theorem aw_499 : Cond.selects RX8 yX8_goesOn yX8_goesOn ∈ AW := in_wsL_law_r21 _ (List.mem_of_getElem? (i := 19) rfl)
theorem aw_500 : Cond.code yX8_goesOn cX8_goesOn 2 none ∈ AW := in_wsL_law_r21 _ (List.mem_of_getElem? (i := 20) rfl)
theorem aw_501 : Cond.methodLink RX8 162 yX8_isLoose ∈ AW := in_wsL_law_r21 _ (List.mem_of_getElem? (i := 21) rfl)
theorem aw_502 : Cond.instanceMethod yX8_isLoose ∈ AW := in_wsL_law_r21 _ (List.mem_of_getElem? (i := 22) rfl)
theorem aw_503 : Cond.selects RX8 yX8_isLoose yX8_isLoose ∈ AW := in_wsL_law_r21 _ (List.mem_of_getElem? (i := 23) rfl)
theorem aw_504 : Cond.code yX8_isLoose cX8_isLoose 2 (some .boolean) ∈ AW := in_wsL_law_r22 _ (List.mem_of_getElem? (i := 0) rfl)
theorem aw_505 : Cond.methodLink RX8 182 yX8_overSet ∈ AW := in_wsL_law_r22 _ (List.mem_of_getElem? (i := 1) rfl)
theorem aw_506 : Cond.instanceMethod yX8_overSet ∈ AW := in_wsL_law_r22 _ (List.mem_of_getElem? (i := 2) rfl)
theorem aw_507 : Cond.selects RX8 yX8_overSet yX8_overSet ∈ AW := in_wsL_law_r22 _ (List.mem_of_getElem? (i := 3) rfl)
theorem aw_508 : Cond.code yX8_overSet cX8_overSet 3 (some .int) ∈ AW := in_wsL_law_r22 _ (List.mem_of_getElem? (i := 4) rfl)
theorem aw_509 : Cond.methodLink RX8 187 yX8_bits ∈ AW := in_wsL_law_r22 _ (List.mem_of_getElem? (i := 5) rfl)
theorem aw_510 : Cond.static yX8_bits ∈ AW := in_wsL_law_r22 _ (List.mem_of_getElem? (i := 6) rfl)
theorem aw_511 : Cond.code yX8_bits cX8_bits 3 (some .int) ∈ AW := in_wsL_law_r22 _ (List.mem_of_getElem? (i := 7) rfl)
theorem aw_512 : Cond.methodLink RL 64 yX7_loose ∈ AW := in_wsL_law_r22 _ (List.mem_of_getElem? (i := 8) rfl)
theorem aw_513 : Cond.instanceMethod yX7_loose ∈ AW := in_wsL_law_r22 _ (List.mem_of_getElem? (i := 9) rfl)
theorem aw_514 : Cond.selects RX7 yX7_loose yX7_loose ∈ AW := in_wsL_law_r22 _ (List.mem_of_getElem? (i := 10) rfl)
theorem aw_515 : Cond.code yX7_loose cX7_loose 3 (some .int) ∈ AW := in_wsL_law_r22 _ (List.mem_of_getElem? (i := 11) rfl)
theorem aw_516 : Cond.instanceMethod yX6_draw ∈ AW := in_wsL_law_r22 _ (List.mem_of_getElem? (i := 12) rfl)
theorem aw_517 : Cond.selects RX6 yX6_draw yX6_draw ∈ AW := in_wsL_law_r22 _ (List.mem_of_getElem? (i := 13) rfl)
theorem aw_518 : Cond.code yX6_draw cX6_draw 1 (some .int) ∈ AW := in_wsL_law_r22 _ (List.mem_of_getElem? (i := 14) rfl)
theorem aw_519 : Cond.constant RX6 45 (1103515245) ∈ AW := in_wsL_law_r22 _ (List.mem_of_getElem? (i := 15) rfl)
theorem aw_520 : Cond.methodLink RL 67 yX8_loose ∈ AW := in_wsL_law_r22 _ (List.mem_of_getElem? (i := 16) rfl)
theorem aw_521 : Cond.instanceMethod yX8_loose ∈ AW := in_wsL_law_r22 _ (List.mem_of_getElem? (i := 17) rfl)
theorem aw_522 : Cond.selects RX8 yX8_loose yX8_loose ∈ AW := in_wsL_law_r22 _ (List.mem_of_getElem? (i := 18) rfl)
theorem aw_523 : Cond.code yX8_loose cX8_loose 3 (some .int) ∈ AW := in_wsL_law_r22 _ (List.mem_of_getElem? (i := 19) rfl)
theorem aw_524 : Cond.methodLink RX8 191 yX8_drawn ∈ AW := in_wsL_law_r22 _ (List.mem_of_getElem? (i := 20) rfl)
theorem aw_525 : Cond.instanceMethod yX8_drawn ∈ AW := in_wsL_law_r22 _ (List.mem_of_getElem? (i := 21) rfl)
theorem aw_526 : Cond.selects RX8 yX8_drawn yX8_drawn ∈ AW := in_wsL_law_r22 _ (List.mem_of_getElem? (i := 22) rfl)
theorem aw_527 : Cond.code yX8_drawn cX8_drawn 2 (some .int) ∈ AW := in_wsL_law_r22 _ (List.mem_of_getElem? (i := 23) rfl)
theorem aw_528 : Cond.constant RX8 190 (1103515245) ∈ AW := in_wsL_law_r23 _ (List.mem_of_getElem? (i := 0) rfl)
theorem aw_529 : Cond.methodLink RL 68 yX7_then ∈ AW := in_wsL_law_r23 _ (List.mem_of_getElem? (i := 1) rfl)
theorem aw_530 : Cond.instanceMethod yX7_then ∈ AW := in_wsL_law_r23 _ (List.mem_of_getElem? (i := 2) rfl)
theorem aw_531 : Cond.selects RX7 yX7_then yX7_then ∈ AW := in_wsL_law_r23 _ (List.mem_of_getElem? (i := 3) rfl)
theorem aw_532 : Cond.code yX7_then cX7_then 5 (some .int) ∈ AW := in_wsL_law_r23 _ (List.mem_of_getElem? (i := 4) rfl)
theorem aw_533 : Cond.methodLink RX7 191 yX7_think ∈ AW := in_wsL_law_r23 _ (List.mem_of_getElem? (i := 5) rfl)
theorem aw_534 : Cond.instanceMethod yX7_think ∈ AW := in_wsL_law_r23 _ (List.mem_of_getElem? (i := 6) rfl)
theorem aw_535 : Cond.selects RX7 yX7_think yX7_think ∈ AW := in_wsL_law_r23 _ (List.mem_of_getElem? (i := 7) rfl)
theorem aw_536 : Cond.code yX7_think cX7_think 1 none ∈ AW := in_wsL_law_r23 _ (List.mem_of_getElem? (i := 8) rfl)
theorem aw_537 : Cond.instanceMethod yX0_copyFrom ∈ AW := in_wsL_law_r23 _ (List.mem_of_getElem? (i := 9) rfl)
theorem aw_538 : Cond.selects RX0 yX0_copyFrom yX0_copyFrom ∈ AW := in_wsL_law_r23 _ (List.mem_of_getElem? (i := 10) rfl)
theorem aw_539 : Cond.code yX0_copyFrom cX0_copyFrom 3 none ∈ AW := in_wsL_law_r23 _ (List.mem_of_getElem? (i := 11) rfl)
theorem aw_540 : Cond.instanceMethod yX1_copyFrom ∈ AW := in_wsL_law_r23 _ (List.mem_of_getElem? (i := 12) rfl)
theorem aw_541 : Cond.selects RX1 yX1_copyFrom yX1_copyFrom ∈ AW := in_wsL_law_r23 _ (List.mem_of_getElem? (i := 13) rfl)
theorem aw_542 : Cond.code yX1_copyFrom cX1_copyFrom 2 none ∈ AW := in_wsL_law_r23 _ (List.mem_of_getElem? (i := 14) rfl)
theorem aw_543 : Cond.fieldLink RX1 24 "KnivesGround$One" "on" "I" ∈ AW := in_wsL_law_r23 _ (List.mem_of_getElem? (i := 15) rfl)
theorem aw_544 : Cond.methodLink RX7 194 yX7_thinkDays ∈ AW := in_wsL_law_r23 _ (List.mem_of_getElem? (i := 16) rfl)
theorem aw_545 : Cond.instanceMethod yX7_thinkDays ∈ AW := in_wsL_law_r23 _ (List.mem_of_getElem? (i := 17) rfl)
theorem aw_546 : Cond.selects RX7 yX7_thinkDays yX7_thinkDays ∈ AW := in_wsL_law_r23 _ (List.mem_of_getElem? (i := 18) rfl)
theorem aw_547 : Cond.code yX7_thinkDays cX7_thinkDays 3 none ∈ AW := in_wsL_law_r23 _ (List.mem_of_getElem? (i := 19) rfl)
theorem aw_548 : Cond.methodLink RL 71 yX8_then ∈ AW := in_wsL_law_r23 _ (List.mem_of_getElem? (i := 20) rfl)
theorem aw_549 : Cond.instanceMethod yX8_then ∈ AW := in_wsL_law_r23 _ (List.mem_of_getElem? (i := 21) rfl)
theorem aw_550 : Cond.selects RX8 yX8_then yX8_then ∈ AW := in_wsL_law_r23 _ (List.mem_of_getElem? (i := 22) rfl)
theorem aw_551 : Cond.code yX8_then cX8_then 5 (some .int) ∈ AW := in_wsL_law_r23 _ (List.mem_of_getElem? (i := 23) rfl)
theorem aw_552 : Cond.methodLink RX8 175 yX8_moveAll ∈ AW := in_wsL_law_r24 _ (List.mem_of_getElem? (i := 0) rfl)
theorem aw_553 : Cond.instanceMethod yX8_moveAll ∈ AW := in_wsL_law_r24 _ (List.mem_of_getElem? (i := 1) rfl)
theorem aw_554 : Cond.selects RX8 yX8_moveAll yX8_moveAll ∈ AW := in_wsL_law_r24 _ (List.mem_of_getElem? (i := 2) rfl)
theorem aw_555 : Cond.code yX8_moveAll cX8_moveAll 4 none ∈ AW := in_wsL_law_r24 _ (List.mem_of_getElem? (i := 3) rfl)
theorem aw_556 : Cond.methodLink RL 72 yX7_when ∈ AW := in_wsL_law_r24 _ (List.mem_of_getElem? (i := 4) rfl)
theorem aw_557 : Cond.instanceMethod yX7_when ∈ AW := in_wsL_law_r24 _ (List.mem_of_getElem? (i := 5) rfl)
theorem aw_558 : Cond.selects RX7 yX7_when yX7_when ∈ AW := in_wsL_law_r24 _ (List.mem_of_getElem? (i := 6) rfl)
theorem aw_559 : Cond.code yX7_when cX7_when 3 (some .int) ∈ AW := in_wsL_law_r24 _ (List.mem_of_getElem? (i := 7) rfl)
theorem aw_560 : Cond.constant RX7 197 (-1000000002) ∈ AW := in_wsL_law_r24 _ (List.mem_of_getElem? (i := 8) rfl)
theorem aw_561 : Cond.methodLink RL 75 yX8_when ∈ AW := in_wsL_law_r24 _ (List.mem_of_getElem? (i := 9) rfl)
theorem aw_562 : Cond.instanceMethod yX8_when ∈ AW := in_wsL_law_r24 _ (List.mem_of_getElem? (i := 10) rfl)
theorem aw_563 : Cond.selects RX8 yX8_when yX8_when ∈ AW := in_wsL_law_r24 _ (List.mem_of_getElem? (i := 11) rfl)
theorem aw_564 : Cond.code yX8_when cX8_when 3 (some .int) ∈ AW := in_wsL_law_r24 _ (List.mem_of_getElem? (i := 12) rfl)
theorem aw_565 : Cond.constant RX8 194 (-1000000002) ∈ AW := in_wsL_law_r24 _ (List.mem_of_getElem? (i := 13) rfl)
theorem aw_566 : Cond.methodLink RL 76 yX7_ended ∈ AW := in_wsL_law_r24 _ (List.mem_of_getElem? (i := 14) rfl)
theorem aw_567 : Cond.instanceMethod yX7_ended ∈ AW := in_wsL_law_r24 _ (List.mem_of_getElem? (i := 15) rfl)
theorem aw_568 : Cond.selects RX7 yX7_ended yX7_ended ∈ AW := in_wsL_law_r24 _ (List.mem_of_getElem? (i := 16) rfl)
theorem aw_569 : Cond.code yX7_ended cX7_ended 2 (some .int) ∈ AW := in_wsL_law_r24 _ (List.mem_of_getElem? (i := 17) rfl)
theorem aw_570 : Cond.methodLink RL 79 yX8_ended ∈ AW := in_wsL_law_r24 _ (List.mem_of_getElem? (i := 18) rfl)
theorem aw_571 : Cond.instanceMethod yX8_ended ∈ AW := in_wsL_law_r24 _ (List.mem_of_getElem? (i := 19) rfl)
theorem aw_572 : Cond.selects RX8 yX8_ended yX8_ended ∈ AW := in_wsL_law_r24 _ (List.mem_of_getElem? (i := 20) rfl)
theorem aw_573 : Cond.code yX8_ended cX8_ended 2 (some .int) ∈ AW := in_wsL_law_r24 _ (List.mem_of_getElem? (i := 21) rfl)
theorem aw_574 : Cond.methodLink RX8 195 yX8_overBehind ∈ AW := in_wsL_law_r24 _ (List.mem_of_getElem? (i := 22) rfl)
theorem aw_575 : Cond.instanceMethod yX8_overBehind ∈ AW := in_wsL_law_r24 _ (List.mem_of_getElem? (i := 23) rfl)
theorem aw_576 : Cond.selects RX8 yX8_overBehind yX8_overBehind ∈ AW := in_wsL_law_r25 _ (List.mem_of_getElem? (i := 0) rfl)
theorem aw_577 : Cond.code yX8_overBehind cX8_overBehind 3 (some .int) ∈ AW := in_wsL_law_r25 _ (List.mem_of_getElem? (i := 1) rfl)
theorem aw_578 : Cond.methodLink RL 80 yX7_start ∈ AW := in_wsL_law_r25 _ (List.mem_of_getElem? (i := 2) rfl)
theorem aw_579 : Cond.instanceMethod yX7_start ∈ AW := in_wsL_law_r25 _ (List.mem_of_getElem? (i := 3) rfl)
theorem aw_580 : Cond.selects RX7 yX7_start yX7_start ∈ AW := in_wsL_law_r25 _ (List.mem_of_getElem? (i := 4) rfl)
theorem aw_581 : Cond.code yX7_start cX7_start 6 (some .int) ∈ AW := in_wsL_law_r25 _ (List.mem_of_getElem? (i := 5) rfl)
theorem aw_582 : Cond.methodLink RL 83 yX8_start ∈ AW := in_wsL_law_r25 _ (List.mem_of_getElem? (i := 6) rfl)
theorem aw_583 : Cond.instanceMethod yX8_start ∈ AW := in_wsL_law_r25 _ (List.mem_of_getElem? (i := 7) rfl)
theorem aw_584 : Cond.selects RX8 yX8_start yX8_start ∈ AW := in_wsL_law_r25 _ (List.mem_of_getElem? (i := 8) rfl)
theorem aw_585 : Cond.code yX8_start cX8_start 3 (some .int) ∈ AW := in_wsL_law_r25 _ (List.mem_of_getElem? (i := 9) rfl)
theorem aw_586 : Cond.methodLink RX8 198 yX8_mostOver ∈ AW := in_wsL_law_r25 _ (List.mem_of_getElem? (i := 10) rfl)
theorem aw_587 : Cond.instanceMethod yX8_mostOver ∈ AW := in_wsL_law_r25 _ (List.mem_of_getElem? (i := 11) rfl)
theorem aw_588 : Cond.selects RX8 yX8_mostOver yX8_mostOver ∈ AW := in_wsL_law_r25 _ (List.mem_of_getElem? (i := 12) rfl)
theorem aw_589 : Cond.code yX8_mostOver cX8_mostOver 9 (some .int) ∈ AW := in_wsL_law_r25 _ (List.mem_of_getElem? (i := 13) rfl)
theorem aw_590 : Cond.methodLink RL 84 yX7_pace ∈ AW := in_wsL_law_r25 _ (List.mem_of_getElem? (i := 14) rfl)
theorem aw_591 : Cond.instanceMethod yX7_pace ∈ AW := in_wsL_law_r25 _ (List.mem_of_getElem? (i := 15) rfl)
theorem aw_592 : Cond.selects RX7 yX7_pace yX7_pace ∈ AW := in_wsL_law_r25 _ (List.mem_of_getElem? (i := 16) rfl)
theorem aw_593 : Cond.code yX7_pace cX7_pace 6 (some .int) ∈ AW := in_wsL_law_r25 _ (List.mem_of_getElem? (i := 17) rfl)
theorem aw_594 : Cond.methodLink RL 87 yX8_pace ∈ AW := in_wsL_law_r25 _ (List.mem_of_getElem? (i := 18) rfl)
theorem aw_595 : Cond.instanceMethod yX8_pace ∈ AW := in_wsL_law_r25 _ (List.mem_of_getElem? (i := 19) rfl)
theorem aw_596 : Cond.selects RX8 yX8_pace yX8_pace ∈ AW := in_wsL_law_r25 _ (List.mem_of_getElem? (i := 20) rfl)
theorem aw_597 : Cond.code yX8_pace cX8_pace 3 (some .int) ∈ AW := in_wsL_law_r25 _ (List.mem_of_getElem? (i := 21) rfl)
theorem aw_598 : Cond.methodLink RL 88 yX7_hand ∈ AW := in_wsL_law_r25 _ (List.mem_of_getElem? (i := 22) rfl)
theorem aw_599 : Cond.instanceMethod yX7_hand ∈ AW := in_wsL_law_r25 _ (List.mem_of_getElem? (i := 23) rfl)
theorem aw_600 : Cond.selects RX7 yX7_hand yX7_hand ∈ AW := in_wsL_law_r26 _ (List.mem_of_getElem? (i := 0) rfl)
theorem aw_601 : Cond.code yX7_hand cX7_hand 7 (some .int) ∈ AW := in_wsL_law_r26 _ (List.mem_of_getElem? (i := 1) rfl)
theorem aw_602 : Cond.instanceMethod yX0_setItHangsOn ∈ AW := in_wsL_law_r26 _ (List.mem_of_getElem? (i := 2) rfl)
theorem aw_603 : Cond.selects RX0 yX0_setItHangsOn yX0_setItHangsOn ∈ AW := in_wsL_law_r26 _ (List.mem_of_getElem? (i := 3) rfl)
theorem aw_604 : Cond.code yX0_setItHangsOn cX0_setItHangsOn 4 (some .int) ∈ AW := in_wsL_law_r26 _ (List.mem_of_getElem? (i := 4) rfl)
theorem aw_605 : Cond.methodLink RX7 207 yJ6_bitCount_0f7a4 ∈ AW := in_wsL_law_r26 _ (List.mem_of_getElem? (i := 5) rfl)
theorem aw_606 : Cond.instanceMethod yX0_sharpen ∈ AW := in_wsL_law_r26 _ (List.mem_of_getElem? (i := 6) rfl)
theorem aw_607 : Cond.selects RX0 yX0_sharpen yX0_sharpen ∈ AW := in_wsL_law_r26 _ (List.mem_of_getElem? (i := 7) rfl)
theorem aw_608 : Cond.code yX0_sharpen cX0_sharpen 3 none ∈ AW := in_wsL_law_r26 _ (List.mem_of_getElem? (i := 8) rfl)
theorem aw_609 : Cond.methodLink RX7 215 yX7_endsInThought ∈ AW := in_wsL_law_r26 _ (List.mem_of_getElem? (i := 9) rfl)
theorem aw_610 : Cond.instanceMethod yX7_endsInThought ∈ AW := in_wsL_law_r26 _ (List.mem_of_getElem? (i := 10) rfl)
theorem aw_611 : Cond.selects RX7 yX7_endsInThought yX7_endsInThought ∈ AW := in_wsL_law_r26 _ (List.mem_of_getElem? (i := 11) rfl)
theorem aw_612 : Cond.code yX7_endsInThought cX7_endsInThought 5 (some .boolean) ∈ AW := in_wsL_law_r26 _ (List.mem_of_getElem? (i := 12) rfl)
theorem aw_613 : Cond.methodLink RL 91 yX8_hand ∈ AW := in_wsL_law_r26 _ (List.mem_of_getElem? (i := 13) rfl)
theorem aw_614 : Cond.instanceMethod yX8_hand ∈ AW := in_wsL_law_r26 _ (List.mem_of_getElem? (i := 14) rfl)
theorem aw_615 : Cond.selects RX8 yX8_hand yX8_hand ∈ AW := in_wsL_law_r26 _ (List.mem_of_getElem? (i := 15) rfl)
theorem aw_616 : Cond.code yX8_hand cX8_hand 6 (some .int) ∈ AW := in_wsL_law_r26 _ (List.mem_of_getElem? (i := 16) rfl)
theorem aw_617 : Cond.methodLink RX8 201 yX8_isOverBy ∈ AW := in_wsL_law_r26 _ (List.mem_of_getElem? (i := 17) rfl)
theorem aw_618 : Cond.instanceMethod yX8_isOverBy ∈ AW := in_wsL_law_r26 _ (List.mem_of_getElem? (i := 18) rfl)
theorem aw_619 : Cond.selects RX8 yX8_isOverBy yX8_isOverBy ∈ AW := in_wsL_law_r26 _ (List.mem_of_getElem? (i := 19) rfl)
theorem aw_620 : Cond.code yX8_isOverBy cX8_isOverBy 5 (some .boolean) ∈ AW := in_wsL_law_r26 _ (List.mem_of_getElem? (i := 20) rfl)
theorem aw_621 : Cond.methodLink RL 92 yX7_first ∈ AW := in_wsL_law_r26 _ (List.mem_of_getElem? (i := 21) rfl)
theorem aw_622 : Cond.instanceMethod yX7_first ∈ AW := in_wsL_law_r26 _ (List.mem_of_getElem? (i := 22) rfl)
theorem aw_623 : Cond.selects RX7 yX7_first yX7_first ∈ AW := in_wsL_law_r26 _ (List.mem_of_getElem? (i := 23) rfl)
theorem aw_624 : Cond.code yX7_first cX7_first 6 (some .int) ∈ AW := in_wsL_law_r27 _ (List.mem_of_getElem? (i := 0) rfl)
theorem aw_625 : Cond.methodLink RX7 219 yX7_thinkDaysWithHarm ∈ AW := in_wsL_law_r27 _ (List.mem_of_getElem? (i := 1) rfl)
theorem aw_626 : Cond.instanceMethod yX7_thinkDaysWithHarm ∈ AW := in_wsL_law_r27 _ (List.mem_of_getElem? (i := 2) rfl)
theorem aw_627 : Cond.selects RX7 yX7_thinkDaysWithHarm yX7_thinkDaysWithHarm ∈ AW := in_wsL_law_r27 _ (List.mem_of_getElem? (i := 3) rfl)
theorem aw_628 : Cond.code yX7_thinkDaysWithHarm cX7_thinkDaysWithHarm 3 none ∈ AW := in_wsL_law_r27 _ (List.mem_of_getElem? (i := 4) rfl)
theorem aw_629 : Cond.methodLink RL 95 yX8_first ∈ AW := in_wsL_law_r27 _ (List.mem_of_getElem? (i := 5) rfl)
theorem aw_630 : Cond.instanceMethod yX8_first ∈ AW := in_wsL_law_r27 _ (List.mem_of_getElem? (i := 6) rfl)
theorem aw_631 : Cond.selects RX8 yX8_first yX8_first ∈ AW := in_wsL_law_r27 _ (List.mem_of_getElem? (i := 7) rfl)
theorem aw_632 : Cond.code yX8_first cX8_first 7 (some .int) ∈ AW := in_wsL_law_r27 _ (List.mem_of_getElem? (i := 8) rfl)
theorem aw_633 : Cond.constant RX8 204 (100000) ∈ AW := in_wsL_law_r27 _ (List.mem_of_getElem? (i := 9) rfl)
theorem aw_634 : Cond.methodLink RL 96 yX7_sparks ∈ AW := in_wsL_law_r27 _ (List.mem_of_getElem? (i := 10) rfl)
theorem aw_635 : Cond.instanceMethod yX7_sparks ∈ AW := in_wsL_law_r27 _ (List.mem_of_getElem? (i := 11) rfl)
theorem aw_636 : Cond.selects RX7 yX7_sparks yX7_sparks ∈ AW := in_wsL_law_r27 _ (List.mem_of_getElem? (i := 12) rfl)
theorem aw_637 : Cond.code yX7_sparks cX7_sparks 6 (some .int) ∈ AW := in_wsL_law_r27 _ (List.mem_of_getElem? (i := 13) rfl)
theorem aw_638 : Cond.methodLink RX7 225 yX7_isSheet ∈ AW := in_wsL_law_r27 _ (List.mem_of_getElem? (i := 14) rfl)
theorem aw_639 : Cond.static yX7_isSheet ∈ AW := in_wsL_law_r27 _ (List.mem_of_getElem? (i := 15) rfl)
theorem aw_640 : Cond.code yX7_isSheet cX7_isSheet 1 (some .boolean) ∈ AW := in_wsL_law_r27 _ (List.mem_of_getElem? (i := 16) rfl)
theorem aw_641 : Cond.instanceMethod yX3_isMissing ∈ AW := in_wsL_law_r27 _ (List.mem_of_getElem? (i := 17) rfl)
theorem aw_642 : Cond.selects RX3 yX3_isMissing yX3_isMissing ∈ AW := in_wsL_law_r27 _ (List.mem_of_getElem? (i := 18) rfl)
theorem aw_643 : Cond.code yX3_isMissing cX3_isMissing 1 (some .boolean) ∈ AW := in_wsL_law_r27 _ (List.mem_of_getElem? (i := 19) rfl)
theorem aw_644 : Cond.fieldLink RX3 15 "KnivesGround$Sheet" "bits" "I" ∈ AW := in_wsL_law_r27 _ (List.mem_of_getElem? (i := 20) rfl)
theorem aw_645 : Cond.instanceMethod yX0_hasEdges ∈ AW := in_wsL_law_r27 _ (List.mem_of_getElem? (i := 21) rfl)
theorem aw_646 : Cond.selects RX0 yX0_hasEdges yX0_hasEdges ∈ AW := in_wsL_law_r27 _ (List.mem_of_getElem? (i := 22) rfl)
theorem aw_647 : Cond.code yX0_hasEdges cX0_hasEdges 3 (some .boolean) ∈ AW := in_wsL_law_r27 _ (List.mem_of_getElem? (i := 23) rfl)
theorem aw_648 : Cond.methodLink RL 99 yX8_sparks ∈ AW := in_wsL_law_r28 _ (List.mem_of_getElem? (i := 0) rfl)
theorem aw_649 : Cond.instanceMethod yX8_sparks ∈ AW := in_wsL_law_r28 _ (List.mem_of_getElem? (i := 1) rfl)
theorem aw_650 : Cond.selects RX8 yX8_sparks yX8_sparks ∈ AW := in_wsL_law_r28 _ (List.mem_of_getElem? (i := 2) rfl)
theorem aw_651 : Cond.code yX8_sparks cX8_sparks 5 (some .int) ∈ AW := in_wsL_law_r28 _ (List.mem_of_getElem? (i := 3) rfl)
theorem aw_652 : Cond.methodLink RX8 205 yX8_isSheet ∈ AW := in_wsL_law_r28 _ (List.mem_of_getElem? (i := 4) rfl)
theorem aw_653 : Cond.static yX8_isSheet ∈ AW := in_wsL_law_r28 _ (List.mem_of_getElem? (i := 5) rfl)
theorem aw_654 : Cond.code yX8_isSheet cX8_isSheet 1 (some .boolean) ∈ AW := in_wsL_law_r28 _ (List.mem_of_getElem? (i := 6) rfl)
theorem aw_655 : Cond.methodLink RX8 208 yX8_areEdgesSo ∈ AW := in_wsL_law_r28 _ (List.mem_of_getElem? (i := 7) rfl)
theorem aw_656 : Cond.instanceMethod yX8_areEdgesSo ∈ AW := in_wsL_law_r28 _ (List.mem_of_getElem? (i := 8) rfl)
theorem aw_657 : Cond.selects RX8 yX8_areEdgesSo yX8_areEdgesSo ∈ AW := in_wsL_law_r28 _ (List.mem_of_getElem? (i := 9) rfl)
theorem aw_658 : Cond.code yX8_areEdgesSo cX8_areEdgesSo 4 (some .boolean) ∈ AW := in_wsL_law_r28 _ (List.mem_of_getElem? (i := 10) rfl)
theorem aw_659 : Cond.methodLink RL 100 yX7_last ∈ AW := in_wsL_law_r28 _ (List.mem_of_getElem? (i := 11) rfl)
theorem aw_660 : Cond.instanceMethod yX7_last ∈ AW := in_wsL_law_r28 _ (List.mem_of_getElem? (i := 12) rfl)
theorem aw_661 : Cond.selects RX7 yX7_last yX7_last ∈ AW := in_wsL_law_r28 _ (List.mem_of_getElem? (i := 13) rfl)
theorem aw_662 : Cond.code yX7_last cX7_last 7 (some .int) ∈ AW := in_wsL_law_r28 _ (List.mem_of_getElem? (i := 14) rfl)
theorem aw_663 : Cond.methodLink RX7 237 yX7_greatestOf ∈ AW := in_wsL_law_r28 _ (List.mem_of_getElem? (i := 15) rfl)
theorem aw_664 : Cond.static yX7_greatestOf ∈ AW := in_wsL_law_r28 _ (List.mem_of_getElem? (i := 16) rfl)
theorem aw_665 : Cond.code yX7_greatestOf cX7_greatestOf 3 (some .int) ∈ AW := in_wsL_law_r28 _ (List.mem_of_getElem? (i := 17) rfl)
theorem aw_666 : Cond.methodLink RL 103 yX8_last ∈ AW := in_wsL_law_r28 _ (List.mem_of_getElem? (i := 18) rfl)
theorem aw_667 : Cond.instanceMethod yX8_last ∈ AW := in_wsL_law_r28 _ (List.mem_of_getElem? (i := 19) rfl)
theorem aw_668 : Cond.selects RX8 yX8_last yX8_last ∈ AW := in_wsL_law_r28 _ (List.mem_of_getElem? (i := 20) rfl)
theorem aw_669 : Cond.code yX8_last cX8_last 9 (some .int) ∈ AW := in_wsL_law_r28 _ (List.mem_of_getElem? (i := 21) rfl)
theorem aw_670 : Cond.methodLink RL 104 yX7_sharp ∈ AW := in_wsL_law_r28 _ (List.mem_of_getElem? (i := 22) rfl)
theorem aw_671 : Cond.instanceMethod yX7_sharp ∈ AW := in_wsL_law_r28 _ (List.mem_of_getElem? (i := 23) rfl)
theorem aw_672 : Cond.selects RX7 yX7_sharp yX7_sharp ∈ AW := in_wsL_law_r29 _ (List.mem_of_getElem? (i := 0) rfl)
theorem aw_673 : Cond.code yX7_sharp cX7_sharp 4 (some .int) ∈ AW := in_wsL_law_r29 _ (List.mem_of_getElem? (i := 1) rfl)
theorem aw_674 : Cond.methodLink RL 107 yX8_sharp ∈ AW := in_wsL_law_r29 _ (List.mem_of_getElem? (i := 2) rfl)
theorem aw_675 : Cond.instanceMethod yX8_sharp ∈ AW := in_wsL_law_r29 _ (List.mem_of_getElem? (i := 3) rfl)
theorem aw_676 : Cond.selects RX8 yX8_sharp yX8_sharp ∈ AW := in_wsL_law_r29 _ (List.mem_of_getElem? (i := 4) rfl)
theorem aw_677 : Cond.code yX8_sharp cX8_sharp 6 (some .int) ∈ AW := in_wsL_law_r29 _ (List.mem_of_getElem? (i := 5) rfl)
theorem aw_678 : Cond.methodLink RL 108 yX7_off ∈ AW := in_wsL_law_r29 _ (List.mem_of_getElem? (i := 6) rfl)
theorem aw_679 : Cond.instanceMethod yX7_off ∈ AW := in_wsL_law_r29 _ (List.mem_of_getElem? (i := 7) rfl)
theorem aw_680 : Cond.selects RX7 yX7_off yX7_off ∈ AW := in_wsL_law_r29 _ (List.mem_of_getElem? (i := 8) rfl)
theorem aw_681 : Cond.code yX7_off cX7_off 3 (some .int) ∈ AW := in_wsL_law_r29 _ (List.mem_of_getElem? (i := 9) rfl)
theorem aw_682 : Cond.methodLink RL 111 yX8_off ∈ AW := in_wsL_law_r29 _ (List.mem_of_getElem? (i := 10) rfl)
theorem aw_683 : Cond.instanceMethod yX8_off ∈ AW := in_wsL_law_r29 _ (List.mem_of_getElem? (i := 11) rfl)
theorem aw_684 : Cond.selects RX8 yX8_off yX8_off ∈ AW := in_wsL_law_r29 _ (List.mem_of_getElem? (i := 12) rfl)
theorem aw_685 : Cond.code yX8_off cX8_off 3 (some .int) ∈ AW := in_wsL_law_r29 _ (List.mem_of_getElem? (i := 13) rfl)
theorem aw_686 : Cond.methodLink RL 112 yX7_chain ∈ AW := in_wsL_law_r29 _ (List.mem_of_getElem? (i := 14) rfl)
theorem aw_687 : Cond.instanceMethod yX7_chain ∈ AW := in_wsL_law_r29 _ (List.mem_of_getElem? (i := 15) rfl)
theorem aw_688 : Cond.selects RX7 yX7_chain yX7_chain ∈ AW := in_wsL_law_r29 _ (List.mem_of_getElem? (i := 16) rfl)
theorem aw_689 : Cond.code yX7_chain cX7_chain 2 (some .int) ∈ AW := in_wsL_law_r29 _ (List.mem_of_getElem? (i := 17) rfl)
theorem aw_690 : Cond.instanceMethod yX0_setHangingOn ∈ AW := in_wsL_law_r29 _ (List.mem_of_getElem? (i := 18) rfl)
theorem aw_691 : Cond.selects RX0 yX0_setHangingOn yX0_setHangingOn ∈ AW := in_wsL_law_r29 _ (List.mem_of_getElem? (i := 19) rfl)
theorem aw_692 : Cond.code yX0_setHangingOn cX0_setHangingOn 5 (some .int) ∈ AW := in_wsL_law_r29 _ (List.mem_of_getElem? (i := 20) rfl)
theorem aw_693 : Cond.methodLink RL 115 yX8_chain ∈ AW := in_wsL_law_r29 _ (List.mem_of_getElem? (i := 21) rfl)
theorem aw_694 : Cond.instanceMethod yX8_chain ∈ AW := in_wsL_law_r29 _ (List.mem_of_getElem? (i := 22) rfl)
theorem aw_695 : Cond.selects RX8 yX8_chain yX8_chain ∈ AW := in_wsL_law_r29 _ (List.mem_of_getElem? (i := 23) rfl)
theorem aw_696 : Cond.code yX8_chain cX8_chain 6 (some .int) ∈ AW := in_wsL_law_r30 _ (List.mem_of_getElem? (i := 0) rfl)
theorem aw_697 : Cond.methodLink RL 116 yX7_fee ∈ AW := in_wsL_law_r30 _ (List.mem_of_getElem? (i := 1) rfl)
theorem aw_698 : Cond.instanceMethod yX7_fee ∈ AW := in_wsL_law_r30 _ (List.mem_of_getElem? (i := 2) rfl)
theorem aw_699 : Cond.selects RX7 yX7_fee yX7_fee ∈ AW := in_wsL_law_r30 _ (List.mem_of_getElem? (i := 3) rfl)
theorem aw_700 : Cond.code yX7_fee cX7_fee 2 (some .int) ∈ AW := in_wsL_law_r30 _ (List.mem_of_getElem? (i := 4) rfl)
theorem aw_701 : Cond.methodLink RL 119 yX8_fee ∈ AW := in_wsL_law_r30 _ (List.mem_of_getElem? (i := 5) rfl)
theorem aw_702 : Cond.instanceMethod yX8_fee ∈ AW := in_wsL_law_r30 _ (List.mem_of_getElem? (i := 6) rfl)
theorem aw_703 : Cond.selects RX8 yX8_fee yX8_fee ∈ AW := in_wsL_law_r30 _ (List.mem_of_getElem? (i := 7) rfl)
theorem aw_704 : Cond.code yX8_fee cX8_fee 3 (some .int) ∈ AW := in_wsL_law_r30 _ (List.mem_of_getElem? (i := 8) rfl)
theorem aw_705 : Cond.methodLink RL 120 yX7_free ∈ AW := in_wsL_law_r30 _ (List.mem_of_getElem? (i := 9) rfl)
theorem aw_706 : Cond.instanceMethod yX7_free ∈ AW := in_wsL_law_r30 _ (List.mem_of_getElem? (i := 10) rfl)
theorem aw_707 : Cond.selects RX7 yX7_free yX7_free ∈ AW := in_wsL_law_r30 _ (List.mem_of_getElem? (i := 11) rfl)
theorem aw_708 : Cond.code yX7_free cX7_free 1 (some .int) ∈ AW := in_wsL_law_r30 _ (List.mem_of_getElem? (i := 12) rfl)
theorem aw_709 : Cond.instanceMethod yX0_setFree ∈ AW := in_wsL_law_r30 _ (List.mem_of_getElem? (i := 13) rfl)
theorem aw_710 : Cond.selects RX0 yX0_setFree yX0_setFree ∈ AW := in_wsL_law_r30 _ (List.mem_of_getElem? (i := 14) rfl)
theorem aw_711 : Cond.code yX0_setFree cX0_setFree 3 (some .int) ∈ AW := in_wsL_law_r30 _ (List.mem_of_getElem? (i := 15) rfl)
theorem aw_712 : Cond.methodLink RL 124 yX8_free ∈ AW := in_wsL_law_r30 _ (List.mem_of_getElem? (i := 16) rfl)
theorem aw_713 : Cond.instanceMethod yX8_free ∈ AW := in_wsL_law_r30 _ (List.mem_of_getElem? (i := 17) rfl)
theorem aw_714 : Cond.selects RX8 yX8_free yX8_free ∈ AW := in_wsL_law_r30 _ (List.mem_of_getElem? (i := 18) rfl)
theorem aw_715 : Cond.code yX8_free cX8_free 3 (some .int) ∈ AW := in_wsL_law_r30 _ (List.mem_of_getElem? (i := 19) rfl)
theorem aw_716 : Cond.methodLink RL 125 yX7_odds ∈ AW := in_wsL_law_r30 _ (List.mem_of_getElem? (i := 20) rfl)
theorem aw_717 : Cond.instanceMethod yX7_odds ∈ AW := in_wsL_law_r30 _ (List.mem_of_getElem? (i := 21) rfl)
theorem aw_718 : Cond.selects RX7 yX7_odds yX7_odds ∈ AW := in_wsL_law_r30 _ (List.mem_of_getElem? (i := 22) rfl)
theorem aw_719 : Cond.code yX7_odds cX7_odds 6 (some .int) ∈ AW := in_wsL_law_r30 _ (List.mem_of_getElem? (i := 23) rfl)
theorem aw_720 : Cond.methodLink RX7 252 yX7_greatestDivisor ∈ AW := in_wsL_law_r31 _ (List.mem_of_getElem? (i := 0) rfl)
theorem aw_721 : Cond.static yX7_greatestDivisor ∈ AW := in_wsL_law_r31 _ (List.mem_of_getElem? (i := 1) rfl)
theorem aw_722 : Cond.code yX7_greatestDivisor cX7_greatestDivisor 3 (some .int) ∈ AW := in_wsL_law_r31 _ (List.mem_of_getElem? (i := 2) rfl)
theorem aw_723 : Cond.methodLink RL 128 yX8_odds ∈ AW := in_wsL_law_r31 _ (List.mem_of_getElem? (i := 3) rfl)
theorem aw_724 : Cond.instanceMethod yX8_odds ∈ AW := in_wsL_law_r31 _ (List.mem_of_getElem? (i := 4) rfl)
theorem aw_725 : Cond.selects RX8 yX8_odds yX8_odds ∈ AW := in_wsL_law_r31 _ (List.mem_of_getElem? (i := 5) rfl)
theorem aw_726 : Cond.code yX8_odds cX8_odds 7 (some .int) ∈ AW := in_wsL_law_r31 _ (List.mem_of_getElem? (i := 6) rfl)
theorem aw_727 : Cond.methodLink RX8 211 yX8_divisor ∈ AW := in_wsL_law_r31 _ (List.mem_of_getElem? (i := 7) rfl)
theorem aw_728 : Cond.static yX8_divisor ∈ AW := in_wsL_law_r31 _ (List.mem_of_getElem? (i := 8) rfl)
theorem aw_729 : Cond.code yX8_divisor cX8_divisor 5 (some .int) ∈ AW := in_wsL_law_r31 _ (List.mem_of_getElem? (i := 9) rfl)
theorem aw_730 : Cond.methodLink RL 129 yX7_seed ∈ AW := in_wsL_law_r31 _ (List.mem_of_getElem? (i := 10) rfl)
theorem aw_731 : Cond.instanceMethod yX7_seed ∈ AW := in_wsL_law_r31 _ (List.mem_of_getElem? (i := 11) rfl)
theorem aw_732 : Cond.selects RX7 yX7_seed yX7_seed ∈ AW := in_wsL_law_r31 _ (List.mem_of_getElem? (i := 12) rfl)
theorem aw_733 : Cond.code yX7_seed cX7_seed 3 (some .int) ∈ AW := in_wsL_law_r31 _ (List.mem_of_getElem? (i := 13) rfl)
theorem aw_734 : Cond.methodLink RL 132 yX8_seed ∈ AW := in_wsL_law_r31 _ (List.mem_of_getElem? (i := 14) rfl)
theorem aw_735 : Cond.instanceMethod yX8_seed ∈ AW := in_wsL_law_r31 _ (List.mem_of_getElem? (i := 15) rfl)
theorem aw_736 : Cond.selects RX8 yX8_seed yX8_seed ∈ AW := in_wsL_law_r31 _ (List.mem_of_getElem? (i := 16) rfl)
theorem aw_737 : Cond.code yX8_seed cX8_seed 3 (some .int) ∈ AW := in_wsL_law_r31 _ (List.mem_of_getElem? (i := 17) rfl)
theorem aw_738 : Cond.methodLink RL 133 yX7_voice ∈ AW := in_wsL_law_r31 _ (List.mem_of_getElem? (i := 18) rfl)
theorem aw_739 : Cond.instanceMethod yX7_voice ∈ AW := in_wsL_law_r31 _ (List.mem_of_getElem? (i := 19) rfl)
theorem aw_740 : Cond.selects RX7 yX7_voice yX7_voice ∈ AW := in_wsL_law_r31 _ (List.mem_of_getElem? (i := 20) rfl)
theorem aw_741 : Cond.code yX7_voice cX7_voice 5 (some .int) ∈ AW := in_wsL_law_r31 _ (List.mem_of_getElem? (i := 21) rfl)
theorem aw_742 : Cond.instanceMethod yX5_beginWith ∈ AW := in_wsL_law_r31 _ (List.mem_of_getElem? (i := 22) rfl)
theorem aw_743 : Cond.selects RX5 yX5_beginWith yX5_beginWith ∈ AW := in_wsL_law_r31 _ (List.mem_of_getElem? (i := 23) rfl)
theorem aw_744 : Cond.code yX5_beginWith cX5_beginWith 4 none ∈ AW := in_wsL_law_r32 _ (List.mem_of_getElem? (i := 0) rfl)
theorem aw_745 : Cond.fieldLink RX5 15 "KnivesGround$Voices" "bodies" "I" ∈ AW := in_wsL_law_r32 _ (List.mem_of_getElem? (i := 1) rfl)
theorem aw_746 : Cond.fieldLink RX5 19 "KnivesGround$Voices" "own" "I" ∈ AW := in_wsL_law_r32 _ (List.mem_of_getElem? (i := 2) rfl)
theorem aw_747 : Cond.fieldLink RX5 22 "KnivesGround$Voices" "n" "I" ∈ AW := in_wsL_law_r32 _ (List.mem_of_getElem? (i := 3) rfl)
theorem aw_748 : Cond.fieldLink RX5 25 "KnivesGround$Voices" "m" "I" ∈ AW := in_wsL_law_r32 _ (List.mem_of_getElem? (i := 4) rfl)
theorem aw_749 : Cond.instanceMethod yX5_say ∈ AW := in_wsL_law_r32 _ (List.mem_of_getElem? (i := 5) rfl)
theorem aw_750 : Cond.selects RX5 yX5_say yX5_say ∈ AW := in_wsL_law_r32 _ (List.mem_of_getElem? (i := 6) rfl)
theorem aw_751 : Cond.code yX5_say cX5_say 3 (some .int) ∈ AW := in_wsL_law_r32 _ (List.mem_of_getElem? (i := 7) rfl)
theorem aw_752 : Cond.methodLink RX5 28 yX5_sayGrinds ∈ AW := in_wsL_law_r32 _ (List.mem_of_getElem? (i := 8) rfl)
theorem aw_753 : Cond.instanceMethod yX5_sayGrinds ∈ AW := in_wsL_law_r32 _ (List.mem_of_getElem? (i := 9) rfl)
theorem aw_754 : Cond.selects RX5 yX5_sayGrinds yX5_sayGrinds ∈ AW := in_wsL_law_r32 _ (List.mem_of_getElem? (i := 10) rfl)
theorem aw_755 : Cond.code yX5_sayGrinds cX5_sayGrinds 3 (some .int) ∈ AW := in_wsL_law_r32 _ (List.mem_of_getElem? (i := 11) rfl)
theorem aw_756 : Cond.methodLink RX5 41 yX5_begin ∈ AW := in_wsL_law_r32 _ (List.mem_of_getElem? (i := 12) rfl)
theorem aw_757 : Cond.instanceMethod yX5_begin ∈ AW := in_wsL_law_r32 _ (List.mem_of_getElem? (i := 13) rfl)
theorem aw_758 : Cond.selects RX5 yX5_begin yX5_begin ∈ AW := in_wsL_law_r32 _ (List.mem_of_getElem? (i := 14) rfl)
theorem aw_759 : Cond.code yX5_begin cX5_begin 2 none ∈ AW := in_wsL_law_r32 _ (List.mem_of_getElem? (i := 15) rfl)
theorem aw_760 : Cond.methodLink RX5 32 yX5_sayCuts ∈ AW := in_wsL_law_r32 _ (List.mem_of_getElem? (i := 16) rfl)
theorem aw_761 : Cond.instanceMethod yX5_sayCuts ∈ AW := in_wsL_law_r32 _ (List.mem_of_getElem? (i := 17) rfl)
theorem aw_762 : Cond.selects RX5 yX5_sayCuts yX5_sayCuts ∈ AW := in_wsL_law_r32 _ (List.mem_of_getElem? (i := 18) rfl)
theorem aw_763 : Cond.code yX5_sayCuts cX5_sayCuts 3 (some .int) ∈ AW := in_wsL_law_r32 _ (List.mem_of_getElem? (i := 19) rfl)
theorem aw_764 : Cond.methodLink RX5 35 yX5_saySparks ∈ AW := in_wsL_law_r32 _ (List.mem_of_getElem? (i := 20) rfl)
theorem aw_765 : Cond.instanceMethod yX5_saySparks ∈ AW := in_wsL_law_r32 _ (List.mem_of_getElem? (i := 21) rfl)
theorem aw_766 : Cond.selects RX5 yX5_saySparks yX5_saySparks ∈ AW := in_wsL_law_r32 _ (List.mem_of_getElem? (i := 22) rfl)
theorem aw_767 : Cond.code yX5_saySparks cX5_saySparks 3 (some .int) ∈ AW := in_wsL_law_r32 _ (List.mem_of_getElem? (i := 23) rfl)
theorem aw_768 : Cond.methodLink RX5 38 yX5_sayTells ∈ AW := in_wsL_law_r33 _ (List.mem_of_getElem? (i := 0) rfl)
theorem aw_769 : Cond.instanceMethod yX5_sayTells ∈ AW := in_wsL_law_r33 _ (List.mem_of_getElem? (i := 1) rfl)
theorem aw_770 : Cond.selects RX5 yX5_sayTells yX5_sayTells ∈ AW := in_wsL_law_r33 _ (List.mem_of_getElem? (i := 2) rfl)
theorem aw_771 : Cond.code yX5_sayTells cX5_sayTells 3 (some .int) ∈ AW := in_wsL_law_r33 _ (List.mem_of_getElem? (i := 3) rfl)
theorem aw_772 : Cond.methodLink RL 136 yX8_voice ∈ AW := in_wsL_law_r33 _ (List.mem_of_getElem? (i := 4) rfl)
theorem aw_773 : Cond.instanceMethod yX8_voice ∈ AW := in_wsL_law_r33 _ (List.mem_of_getElem? (i := 5) rfl)
theorem aw_774 : Cond.selects RX8 yX8_voice yX8_voice ∈ AW := in_wsL_law_r33 _ (List.mem_of_getElem? (i := 6) rfl)
theorem aw_775 : Cond.code yX8_voice cX8_voice 4 (some .int) ∈ AW := in_wsL_law_r33 _ (List.mem_of_getElem? (i := 7) rfl)
theorem aw_776 : Cond.fieldLink RX8 214 "KnivesGroundModel" "tracedMany" "I" ∈ AW := in_wsL_law_r33 _ (List.mem_of_getElem? (i := 8) rfl)
theorem aw_777 : Cond.fieldLink RX8 232 "KnivesGroundModel" "voiceKind" "I" ∈ AW := in_wsL_law_r33 _ (List.mem_of_getElem? (i := 9) rfl)
theorem aw_778 : Cond.fieldLink RX8 220 "KnivesGroundModel" "voiceN" "I" ∈ AW := in_wsL_law_r33 _ (List.mem_of_getElem? (i := 10) rfl)
theorem aw_779 : Cond.fieldLink RX8 226 "KnivesGroundModel" "voiceM" "I" ∈ AW := in_wsL_law_r33 _ (List.mem_of_getElem? (i := 11) rfl)
theorem aw_780 : Cond.methodLink RX8 223 yX8_grindsIn ∈ AW := in_wsL_law_r33 _ (List.mem_of_getElem? (i := 12) rfl)
theorem aw_781 : Cond.instanceMethod yX8_grindsIn ∈ AW := in_wsL_law_r33 _ (List.mem_of_getElem? (i := 13) rfl)
theorem aw_782 : Cond.selects RX8 yX8_grindsIn yX8_grindsIn ∈ AW := in_wsL_law_r33 _ (List.mem_of_getElem? (i := 14) rfl)
theorem aw_783 : Cond.code yX8_grindsIn cX8_grindsIn 3 (some .int) ∈ AW := in_wsL_law_r33 _ (List.mem_of_getElem? (i := 15) rfl)
theorem aw_784 : Cond.methodLink RX8 217 yX8_ran ∈ AW := in_wsL_law_r33 _ (List.mem_of_getElem? (i := 16) rfl)
theorem aw_785 : Cond.instanceMethod yX8_ran ∈ AW := in_wsL_law_r33 _ (List.mem_of_getElem? (i := 17) rfl)
theorem aw_786 : Cond.selects RX8 yX8_ran yX8_ran ∈ AW := in_wsL_law_r33 _ (List.mem_of_getElem? (i := 18) rfl)
theorem aw_787 : Cond.code yX8_ran cX8_ran 2 none ∈ AW := in_wsL_law_r33 _ (List.mem_of_getElem? (i := 19) rfl)
theorem aw_788 : Cond.methodLink RX8 235 yX8_cutsIn ∈ AW := in_wsL_law_r33 _ (List.mem_of_getElem? (i := 20) rfl)
theorem aw_789 : Cond.instanceMethod yX8_cutsIn ∈ AW := in_wsL_law_r33 _ (List.mem_of_getElem? (i := 21) rfl)
theorem aw_790 : Cond.selects RX8 yX8_cutsIn yX8_cutsIn ∈ AW := in_wsL_law_r33 _ (List.mem_of_getElem? (i := 22) rfl)
theorem aw_791 : Cond.code yX8_cutsIn cX8_cutsIn 4 (some .int) ∈ AW := in_wsL_law_r33 _ (List.mem_of_getElem? (i := 23) rfl)
theorem aw_792 : Cond.methodLink RX8 229 yX8_sparksIn ∈ AW := in_wsL_law_r34 _ (List.mem_of_getElem? (i := 0) rfl)
theorem aw_793 : Cond.instanceMethod yX8_sparksIn ∈ AW := in_wsL_law_r34 _ (List.mem_of_getElem? (i := 1) rfl)
theorem aw_794 : Cond.selects RX8 yX8_sparksIn yX8_sparksIn ∈ AW := in_wsL_law_r34 _ (List.mem_of_getElem? (i := 2) rfl)
theorem aw_795 : Cond.code yX8_sparksIn cX8_sparksIn 3 (some .int) ∈ AW := in_wsL_law_r34 _ (List.mem_of_getElem? (i := 3) rfl)
theorem aw_796 : Cond.methodLink RX8 238 yX8_tellsIn ∈ AW := in_wsL_law_r34 _ (List.mem_of_getElem? (i := 4) rfl)
theorem aw_797 : Cond.instanceMethod yX8_tellsIn ∈ AW := in_wsL_law_r34 _ (List.mem_of_getElem? (i := 5) rfl)
theorem aw_798 : Cond.selects RX8 yX8_tellsIn yX8_tellsIn ∈ AW := in_wsL_law_r34 _ (List.mem_of_getElem? (i := 6) rfl)
theorem aw_799 : Cond.code yX8_tellsIn cX8_tellsIn 4 (some .int) ∈ AW := in_wsL_law_r34 _ (List.mem_of_getElem? (i := 7) rfl)
theorem aw_800 : Cond.methodLink RL 137 yX7_trace ∈ AW := in_wsL_law_r34 _ (List.mem_of_getElem? (i := 8) rfl)
theorem aw_801 : Cond.instanceMethod yX7_trace ∈ AW := in_wsL_law_r34 _ (List.mem_of_getElem? (i := 9) rfl)
theorem aw_802 : Cond.selects RX7 yX7_trace yX7_trace ∈ AW := in_wsL_law_r34 _ (List.mem_of_getElem? (i := 10) rfl)
theorem aw_803 : Cond.code yX7_trace cX7_trace 2 (some .int) ∈ AW := in_wsL_law_r34 _ (List.mem_of_getElem? (i := 11) rfl)
theorem aw_804 : Cond.methodLink RL 140 yX8_trace ∈ AW := in_wsL_law_r34 _ (List.mem_of_getElem? (i := 12) rfl)
theorem aw_805 : Cond.instanceMethod yX8_trace ∈ AW := in_wsL_law_r34 _ (List.mem_of_getElem? (i := 13) rfl)
theorem aw_806 : Cond.selects RX8 yX8_trace yX8_trace ∈ AW := in_wsL_law_r34 _ (List.mem_of_getElem? (i := 14) rfl)
theorem aw_807 : Cond.code yX8_trace cX8_trace 2 (some .int) ∈ AW := in_wsL_law_r34 _ (List.mem_of_getElem? (i := 15) rfl)
theorem aw_808 : Cond.methodLink RL 141 yX7_sheet ∈ AW := in_wsL_law_r34 _ (List.mem_of_getElem? (i := 16) rfl)
theorem aw_809 : Cond.instanceMethod yX7_sheet ∈ AW := in_wsL_law_r34 _ (List.mem_of_getElem? (i := 17) rfl)
theorem aw_810 : Cond.selects RX7 yX7_sheet yX7_sheet ∈ AW := in_wsL_law_r34 _ (List.mem_of_getElem? (i := 18) rfl)
theorem aw_811 : Cond.code yX7_sheet cX7_sheet 4 (some .int) ∈ AW := in_wsL_law_r34 _ (List.mem_of_getElem? (i := 19) rfl)
theorem aw_812 : Cond.instanceMethod yX3_lay ∈ AW := in_wsL_law_r34 _ (List.mem_of_getElem? (i := 20) rfl)
theorem aw_813 : Cond.selects RX3 yX3_lay yX3_lay ∈ AW := in_wsL_law_r34 _ (List.mem_of_getElem? (i := 21) rfl)
theorem aw_814 : Cond.code yX3_lay cX3_lay 4 none ∈ AW := in_wsL_law_r34 _ (List.mem_of_getElem? (i := 22) rfl)
theorem aw_815 : Cond.fieldLink RX3 19 "KnivesGround$Sheet" "many" "I" ∈ AW := in_wsL_law_r34 _ (List.mem_of_getElem? (i := 23) rfl)
theorem aw_816 : Cond.methodLink RL 144 yX8_sheet ∈ AW := in_wsL_law_r35 _ (List.mem_of_getElem? (i := 0) rfl)
theorem aw_817 : Cond.instanceMethod yX8_sheet ∈ AW := in_wsL_law_r35 _ (List.mem_of_getElem? (i := 1) rfl)
theorem aw_818 : Cond.selects RX8 yX8_sheet yX8_sheet ∈ AW := in_wsL_law_r35 _ (List.mem_of_getElem? (i := 2) rfl)
theorem aw_819 : Cond.code yX8_sheet cX8_sheet 5 (some .int) ∈ AW := in_wsL_law_r35 _ (List.mem_of_getElem? (i := 3) rfl)
theorem aw_820 : Cond.methodLink RL 145 yX7_put ∈ AW := in_wsL_law_r35 _ (List.mem_of_getElem? (i := 4) rfl)
theorem aw_821 : Cond.instanceMethod yX7_put ∈ AW := in_wsL_law_r35 _ (List.mem_of_getElem? (i := 5) rfl)
theorem aw_822 : Cond.selects RX7 yX7_put yX7_put ∈ AW := in_wsL_law_r35 _ (List.mem_of_getElem? (i := 6) rfl)
theorem aw_823 : Cond.code yX7_put cX7_put 5 (some .int) ∈ AW := in_wsL_law_r35 _ (List.mem_of_getElem? (i := 7) rfl)
theorem aw_824 : Cond.instanceMethod yX3_write ∈ AW := in_wsL_law_r35 _ (List.mem_of_getElem? (i := 8) rfl)
theorem aw_825 : Cond.selects RX3 yX3_write yX3_write ∈ AW := in_wsL_law_r35 _ (List.mem_of_getElem? (i := 9) rfl)
theorem aw_826 : Cond.code yX3_write cX3_write 3 none ∈ AW := in_wsL_law_r35 _ (List.mem_of_getElem? (i := 10) rfl)
theorem aw_827 : Cond.methodLink RL 148 yX8_put ∈ AW := in_wsL_law_r35 _ (List.mem_of_getElem? (i := 11) rfl)
theorem aw_828 : Cond.instanceMethod yX8_put ∈ AW := in_wsL_law_r35 _ (List.mem_of_getElem? (i := 12) rfl)
theorem aw_829 : Cond.selects RX8 yX8_put yX8_put ∈ AW := in_wsL_law_r35 _ (List.mem_of_getElem? (i := 13) rfl)
theorem aw_830 : Cond.code yX8_put cX8_put 4 (some .int) ∈ AW := in_wsL_law_r35 _ (List.mem_of_getElem? (i := 14) rfl)
theorem aw_831 : Cond.methodLink RX8 241 yX8_narrow ∈ AW := in_wsL_law_r35 _ (List.mem_of_getElem? (i := 15) rfl)
theorem aw_832 : Cond.static yX8_narrow ∈ AW := in_wsL_law_r35 _ (List.mem_of_getElem? (i := 16) rfl)
theorem aw_833 : Cond.code yX8_narrow cX8_narrow 2 (some .int) ∈ AW := in_wsL_law_r35 _ (List.mem_of_getElem? (i := 17) rfl)
theorem aw_834 : Cond.methodLink RL 149 yX7_move ∈ AW := in_wsL_law_r35 _ (List.mem_of_getElem? (i := 18) rfl)
theorem aw_835 : Cond.instanceMethod yX7_move ∈ AW := in_wsL_law_r35 _ (List.mem_of_getElem? (i := 19) rfl)
theorem aw_836 : Cond.selects RX7 yX7_move yX7_move ∈ AW := in_wsL_law_r35 _ (List.mem_of_getElem? (i := 20) rfl)
theorem aw_837 : Cond.code yX7_move cX7_move 8 (some .int) ∈ AW := in_wsL_law_r35 _ (List.mem_of_getElem? (i := 21) rfl)
theorem aw_838 : Cond.methodLink RX7 287 arraycopyName ∈ AW := in_wsL_law_r35 _ (List.mem_of_getElem? (i := 22) rfl)
theorem aw_839 : Cond.instanceMethod yX3_hasNumbers ∈ AW := in_wsL_law_r35 _ (List.mem_of_getElem? (i := 23) rfl)
theorem aw_840 : Cond.selects RX3 yX3_hasNumbers yX3_hasNumbers ∈ AW := in_wsL_law_r36 _ (List.mem_of_getElem? (i := 0) rfl)
theorem aw_841 : Cond.code yX3_hasNumbers cX3_hasNumbers 3 (some .boolean) ∈ AW := in_wsL_law_r36 _ (List.mem_of_getElem? (i := 1) rfl)
theorem aw_842 : Cond.methodLink RL 153 yX8_move ∈ AW := in_wsL_law_r36 _ (List.mem_of_getElem? (i := 2) rfl)
theorem aw_843 : Cond.instanceMethod yX8_move ∈ AW := in_wsL_law_r36 _ (List.mem_of_getElem? (i := 3) rfl)
theorem aw_844 : Cond.selects RX8 yX8_move yX8_move ∈ AW := in_wsL_law_r36 _ (List.mem_of_getElem? (i := 4) rfl)
theorem aw_845 : Cond.code yX8_move cX8_move 7 (some .int) ∈ AW := in_wsL_law_r36 _ (List.mem_of_getElem? (i := 5) rfl)
theorem aw_846 : Cond.methodLink RL 154 yX7_edges ∈ AW := in_wsL_law_r36 _ (List.mem_of_getElem? (i := 6) rfl)
theorem aw_847 : Cond.instanceMethod yX7_edges ∈ AW := in_wsL_law_r36 _ (List.mem_of_getElem? (i := 7) rfl)
theorem aw_848 : Cond.selects RX7 yX7_edges yX7_edges ∈ AW := in_wsL_law_r36 _ (List.mem_of_getElem? (i := 8) rfl)
theorem aw_849 : Cond.code yX7_edges cX7_edges 5 (some .int) ∈ AW := in_wsL_law_r36 _ (List.mem_of_getElem? (i := 9) rfl)
theorem aw_850 : Cond.methodLink RX7 293 Lib.Math.min.name ∈ AW := in_wsL_law_r36 _ (List.mem_of_getElem? (i := 10) rfl)
theorem aw_851 : Cond.methodLink RL 157 yX8_edges ∈ AW := in_wsL_law_r36 _ (List.mem_of_getElem? (i := 11) rfl)
theorem aw_852 : Cond.instanceMethod yX8_edges ∈ AW := in_wsL_law_r36 _ (List.mem_of_getElem? (i := 12) rfl)
theorem aw_853 : Cond.selects RX8 yX8_edges yX8_edges ∈ AW := in_wsL_law_r36 _ (List.mem_of_getElem? (i := 13) rfl)
theorem aw_854 : Cond.code yX8_edges cX8_edges 3 (some .int) ∈ AW := in_wsL_law_r36 _ (List.mem_of_getElem? (i := 14) rfl)
theorem aw_855 : Cond.methodLink RL 158 yX7_judge ∈ AW := in_wsL_law_r36 _ (List.mem_of_getElem? (i := 15) rfl)
theorem aw_856 : Cond.instanceMethod yX7_judge ∈ AW := in_wsL_law_r36 _ (List.mem_of_getElem? (i := 16) rfl)
theorem aw_857 : Cond.selects RX7 yX7_judge yX7_judge ∈ AW := in_wsL_law_r36 _ (List.mem_of_getElem? (i := 17) rfl)
theorem aw_858 : Cond.code yX7_judge cX7_judge 5 (some .int) ∈ AW := in_wsL_law_r36 _ (List.mem_of_getElem? (i := 18) rfl)
theorem aw_859 : Cond.methodLink RL 161 yX8_judge ∈ AW := in_wsL_law_r36 _ (List.mem_of_getElem? (i := 19) rfl)
theorem aw_860 : Cond.instanceMethod yX8_judge ∈ AW := in_wsL_law_r36 _ (List.mem_of_getElem? (i := 20) rfl)
theorem aw_861 : Cond.selects RX8 yX8_judge yX8_judge ∈ AW := in_wsL_law_r36 _ (List.mem_of_getElem? (i := 21) rfl)
theorem aw_862 : Cond.code yX8_judge cX8_judge 3 (some .int) ∈ AW := in_wsL_law_r36 _ (List.mem_of_getElem? (i := 22) rfl)
theorem aw_863 : Cond.methodLink RL 162 yX7_image ∈ AW := in_wsL_law_r36 _ (List.mem_of_getElem? (i := 23) rfl)
theorem aw_864 : Cond.instanceMethod yX7_image ∈ AW := in_wsL_law_r37 _ (List.mem_of_getElem? (i := 0) rfl)
theorem aw_865 : Cond.selects RX7 yX7_image yX7_image ∈ AW := in_wsL_law_r37 _ (List.mem_of_getElem? (i := 1) rfl)
theorem aw_866 : Cond.code yX7_image cX7_image 1 (some .int) ∈ AW := in_wsL_law_r37 _ (List.mem_of_getElem? (i := 2) rfl)
theorem aw_867 : Cond.fieldLink RX7 301 "KnivesGround" "images" "I" ∈ AW := in_wsL_law_r37 _ (List.mem_of_getElem? (i := 3) rfl)
theorem aw_868 : Cond.instanceMethod yX6_copyFrom ∈ AW := in_wsL_law_r37 _ (List.mem_of_getElem? (i := 4) rfl)
theorem aw_869 : Cond.selects RX6 yX6_copyFrom yX6_copyFrom ∈ AW := in_wsL_law_r37 _ (List.mem_of_getElem? (i := 5) rfl)
theorem aw_870 : Cond.code yX6_copyFrom cX6_copyFrom 2 none ∈ AW := in_wsL_law_r37 _ (List.mem_of_getElem? (i := 6) rfl)
theorem aw_871 : Cond.fieldLink RX6 53 "KnivesGround$Whole" "bytes" "I" ∈ AW := in_wsL_law_r37 _ (List.mem_of_getElem? (i := 7) rfl)
theorem aw_872 : Cond.methodLink RX6 56 arraycopyName ∈ AW := in_wsL_law_r37 _ (List.mem_of_getElem? (i := 8) rfl)
theorem aw_873 : Cond.fieldLink RX6 62 "KnivesGround$Whole" "waits" "I" ∈ AW := in_wsL_law_r37 _ (List.mem_of_getElem? (i := 9) rfl)
theorem aw_874 : Cond.methodLink RL 165 yX8_image ∈ AW := in_wsL_law_r37 _ (List.mem_of_getElem? (i := 10) rfl)
theorem aw_875 : Cond.instanceMethod yX8_image ∈ AW := in_wsL_law_r37 _ (List.mem_of_getElem? (i := 11) rfl)
theorem aw_876 : Cond.selects RX8 yX8_image yX8_image ∈ AW := in_wsL_law_r37 _ (List.mem_of_getElem? (i := 12) rfl)
theorem aw_877 : Cond.code yX8_image cX8_image 1 (some .int) ∈ AW := in_wsL_law_r37 _ (List.mem_of_getElem? (i := 13) rfl)
theorem aw_878 : Cond.fieldLink RX8 244 "KnivesGroundModel" "isKept" "Z" ∈ AW := in_wsL_law_r37 _ (List.mem_of_getElem? (i := 14) rfl)
theorem aw_879 : Cond.fieldLink RX8 247 "KnivesGroundModel" "images" "I" ∈ AW := in_wsL_law_r37 _ (List.mem_of_getElem? (i := 15) rfl)
theorem aw_880 : Cond.methodLink RL 166 yX7_restore ∈ AW := in_wsL_law_r37 _ (List.mem_of_getElem? (i := 16) rfl)
theorem aw_881 : Cond.instanceMethod yX7_restore ∈ AW := in_wsL_law_r37 _ (List.mem_of_getElem? (i := 17) rfl)
theorem aw_882 : Cond.selects RX7 yX7_restore yX7_restore ∈ AW := in_wsL_law_r37 _ (List.mem_of_getElem? (i := 18) rfl)
theorem aw_883 : Cond.code yX7_restore cX7_restore 1 (some .int) ∈ AW := in_wsL_law_r37 _ (List.mem_of_getElem? (i := 19) rfl)
theorem aw_884 : Cond.methodLink RL 169 yX8_restore ∈ AW := in_wsL_law_r37 _ (List.mem_of_getElem? (i := 20) rfl)
theorem aw_885 : Cond.instanceMethod yX8_restore ∈ AW := in_wsL_law_r37 _ (List.mem_of_getElem? (i := 21) rfl)
theorem aw_886 : Cond.selects RX8 yX8_restore yX8_restore ∈ AW := in_wsL_law_r37 _ (List.mem_of_getElem? (i := 22) rfl)
theorem aw_887 : Cond.code yX8_restore cX8_restore 1 (some .int) ∈ AW := in_wsL_law_r37 _ (List.mem_of_getElem? (i := 23) rfl)
theorem aw_888 : Cond.methodLink RL 170 yX7_tell ∈ AW := in_wsL_law_r38 _ (List.mem_of_getElem? (i := 0) rfl)
theorem aw_889 : Cond.instanceMethod yX7_tell ∈ AW := in_wsL_law_r38 _ (List.mem_of_getElem? (i := 1) rfl)
theorem aw_890 : Cond.selects RX7 yX7_tell yX7_tell ∈ AW := in_wsL_law_r38 _ (List.mem_of_getElem? (i := 2) rfl)
theorem aw_891 : Cond.code yX7_tell cX7_tell 2 (some .int) ∈ AW := in_wsL_law_r38 _ (List.mem_of_getElem? (i := 3) rfl)
theorem aw_892 : Cond.methodLink RL 173 yX8_tell ∈ AW := in_wsL_law_r38 _ (List.mem_of_getElem? (i := 4) rfl)
theorem aw_893 : Cond.instanceMethod yX8_tell ∈ AW := in_wsL_law_r38 _ (List.mem_of_getElem? (i := 5) rfl)
theorem aw_894 : Cond.selects RX8 yX8_tell yX8_tell ∈ AW := in_wsL_law_r38 _ (List.mem_of_getElem? (i := 6) rfl)
theorem aw_895 : Cond.code yX8_tell cX8_tell 2 (some .int) ∈ AW := in_wsL_law_r38 _ (List.mem_of_getElem? (i := 7) rfl)
theorem aw_896 : Cond.methodLink RL 174 yX7_check ∈ AW := in_wsL_law_r38 _ (List.mem_of_getElem? (i := 8) rfl)
theorem aw_897 : Cond.instanceMethod yX7_check ∈ AW := in_wsL_law_r38 _ (List.mem_of_getElem? (i := 9) rfl)
theorem aw_898 : Cond.selects RX7 yX7_check yX7_check ∈ AW := in_wsL_law_r38 _ (List.mem_of_getElem? (i := 10) rfl)
theorem aw_899 : Cond.code yX7_check cX7_check 3 (some .int) ∈ AW := in_wsL_law_r38 _ (List.mem_of_getElem? (i := 11) rfl)
theorem aw_900 : Cond.methodLink RL 177 yX8_check ∈ AW := in_wsL_law_r38 _ (List.mem_of_getElem? (i := 12) rfl)
theorem aw_901 : Cond.instanceMethod yX8_check ∈ AW := in_wsL_law_r38 _ (List.mem_of_getElem? (i := 13) rfl)
theorem aw_902 : Cond.selects RX8 yX8_check yX8_check ∈ AW := in_wsL_law_r38 _ (List.mem_of_getElem? (i := 14) rfl)
theorem aw_903 : Cond.code yX8_check cX8_check 4 (some .int) ∈ AW := in_wsL_law_r38 _ (List.mem_of_getElem? (i := 15) rfl)
theorem aw_904 : Cond.methodLink RL 178 yX7_count ∈ AW := in_wsL_law_r38 _ (List.mem_of_getElem? (i := 16) rfl)
theorem aw_905 : Cond.instanceMethod yX7_count ∈ AW := in_wsL_law_r38 _ (List.mem_of_getElem? (i := 17) rfl)
theorem aw_906 : Cond.selects RX7 yX7_count yX7_count ∈ AW := in_wsL_law_r38 _ (List.mem_of_getElem? (i := 18) rfl)
theorem aw_907 : Cond.code yX7_count cX7_count 3 (some .int) ∈ AW := in_wsL_law_r38 _ (List.mem_of_getElem? (i := 19) rfl)
theorem aw_908 : Cond.instanceMethod yX0_edgesTogether ∈ AW := in_wsL_law_r38 _ (List.mem_of_getElem? (i := 20) rfl)
theorem aw_909 : Cond.selects RX0 yX0_edgesTogether yX0_edgesTogether ∈ AW := in_wsL_law_r38 _ (List.mem_of_getElem? (i := 21) rfl)
theorem aw_910 : Cond.code yX0_edgesTogether cX0_edgesTogether 3 (some .int) ∈ AW := in_wsL_law_r38 _ (List.mem_of_getElem? (i := 22) rfl)
theorem aw_911 : Cond.methodLink RL 181 yX8_count ∈ AW := in_wsL_law_r38 _ (List.mem_of_getElem? (i := 23) rfl)
theorem aw_912 : Cond.instanceMethod yX8_count ∈ AW := in_wsL_law_r39 _ (List.mem_of_getElem? (i := 0) rfl)
theorem aw_913 : Cond.selects RX8 yX8_count yX8_count ∈ AW := in_wsL_law_r39 _ (List.mem_of_getElem? (i := 1) rfl)
theorem aw_914 : Cond.code yX8_count cX8_count 2 (some .int) ∈ AW := in_wsL_law_r39 _ (List.mem_of_getElem? (i := 2) rfl)
theorem aw_915 : Cond.methodLink RX8 250 yX8_edgesOfAll ∈ AW := in_wsL_law_r39 _ (List.mem_of_getElem? (i := 3) rfl)
theorem aw_916 : Cond.instanceMethod yX8_edgesOfAll ∈ AW := in_wsL_law_r39 _ (List.mem_of_getElem? (i := 4) rfl)
theorem aw_917 : Cond.selects RX8 yX8_edgesOfAll yX8_edgesOfAll ∈ AW := in_wsL_law_r39 _ (List.mem_of_getElem? (i := 5) rfl)
theorem aw_918 : Cond.code yX8_edgesOfAll cX8_edgesOfAll 3 (some .int) ∈ AW := in_wsL_law_r39 _ (List.mem_of_getElem? (i := 6) rfl)
theorem aw_919 : Cond.methodLink RL 182 yX7_told ∈ AW := in_wsL_law_r39 _ (List.mem_of_getElem? (i := 7) rfl)
theorem aw_920 : Cond.instanceMethod yX7_told ∈ AW := in_wsL_law_r39 _ (List.mem_of_getElem? (i := 8) rfl)
theorem aw_921 : Cond.selects RX7 yX7_told yX7_told ∈ AW := in_wsL_law_r39 _ (List.mem_of_getElem? (i := 9) rfl)
theorem aw_922 : Cond.code yX7_told cX7_told 2 (some .int) ∈ AW := in_wsL_law_r39 _ (List.mem_of_getElem? (i := 10) rfl)
theorem aw_923 : Cond.methodLink RL 185 yX8_told ∈ AW := in_wsL_law_r39 _ (List.mem_of_getElem? (i := 11) rfl)
theorem aw_924 : Cond.instanceMethod yX8_told ∈ AW := in_wsL_law_r39 _ (List.mem_of_getElem? (i := 12) rfl)
theorem aw_925 : Cond.selects RX8 yX8_told yX8_told ∈ AW := in_wsL_law_r39 _ (List.mem_of_getElem? (i := 13) rfl)
theorem aw_926 : Cond.code yX8_told cX8_told 2 (some .int) ∈ AW := in_wsL_law_r39 _ (List.mem_of_getElem? (i := 14) rfl)
theorem awF7 : ∀ w ∈ wsX70, w ∈ AW := fun w h => List.mem_append_left _ (List.mem_append_left _ (List.mem_append_left _ (List.mem_append_left _ (List.mem_append_left _ (List.mem_append_left _ (List.mem_append_left _ (List.mem_append_left _ (List.mem_append_left _ ((List.mem_append_right _ h))))))))))
theorem awF8 : ∀ w ∈ wsX80, w ∈ AW := fun w h => List.mem_append_left _ (List.mem_append_left _ (List.mem_append_left _ (List.mem_append_left _ (List.mem_append_left _ (List.mem_append_left _ (List.mem_append_left _ (List.mem_append_left _ ((List.mem_append_right _ h)))))))))
theorem awF6 : ∀ w ∈ wsX60, w ∈ AW := fun w h => List.mem_append_left _ (List.mem_append_left _ (List.mem_append_left _ (List.mem_append_left _ (List.mem_append_left _ (List.mem_append_left _ (List.mem_append_left _ ((List.mem_append_right _ h))))))))
theorem awF0 : ∀ w ∈ wsX00, w ∈ AW := fun w h => List.mem_append_left _ (List.mem_append_left _ (List.mem_append_left _ (List.mem_append_left _ (List.mem_append_left _ (List.mem_append_left _ ((List.mem_append_right _ h)))))))
theorem awF2 : ∀ w ∈ wsX20, w ∈ AW := fun w h => List.mem_append_left _ (List.mem_append_left _ (List.mem_append_left _ (List.mem_append_left _ (List.mem_append_left _ ((List.mem_append_right _ h))))))
theorem awF5 : ∀ w ∈ wsX50, w ∈ AW := fun w h => List.mem_append_left _ (List.mem_append_left _ (List.mem_append_left _ (List.mem_append_left _ ((List.mem_append_right _ h)))))
theorem awF3 : ∀ w ∈ wsX30, w ∈ AW := fun w h => List.mem_append_left _ (List.mem_append_left _ (List.mem_append_left _ ((List.mem_append_right _ h))))
theorem awF4 : ∀ w ∈ wsX40, w ∈ AW := fun w h => List.mem_append_left _ (List.mem_append_left _ ((List.mem_append_right _ h)))
theorem awF1 : ∀ w ∈ wsX10, w ∈ AW := fun w h => List.mem_append_left _ ((List.mem_append_right _ h))
abbrev NWF : List (String × Nat × String × String × String × String) := [(RX2, 85, "KnivesGround$Text", "use", "I", "KnivesGround"), (RX7, 120, "KnivesGround$One", "kind", "I", "KnivesGround"), (RX7, 123, "KnivesGround$One", "m", "I", "KnivesGround"), (RX0, 90, "KnivesGround$One", "m", "I", "KnivesGround"), (RX7, 101, "KnivesGround$One", "area", "I", "KnivesGround"), (RX0, 58, "KnivesGround$One", "area", "I", "KnivesGround"), (RX7, 104, "KnivesGround$One", "edge", "I", "KnivesGround"), (RX0, 65, "KnivesGround$One", "edge", "I", "KnivesGround"), (RX7, 107, "KnivesGround$One", "on", "I", "KnivesGround"), (RX0, 108, "KnivesGround$One", "on", "I", "KnivesGround"), (RX7, 114, "KnivesGround$One", "age", "I", "KnivesGround"), (RX0, 87, "KnivesGround$One", "age", "I", "KnivesGround"), (RX7, 110, "KnivesGround$One", "ended", "Z", "KnivesGround"), (RX0, 61, "KnivesGround$One", "ended", "Z", "KnivesGround"), (RX7, 91, "KnivesGround$Ground", "ones", "[LKnivesGround$One;", "KnivesGround"), (RX7, 86, "KnivesGround$Ground", "many", "I", "KnivesGround"), (RX7, 201, "KnivesGround$Ground", "grinder", "I", "KnivesGround"), (RX7, 188, "KnivesGround$Ground", "step", "I", "KnivesGround"), (RX7, 174, "KnivesGround$Ground", "day", "I", "KnivesGround"), (RX7, 222, "KnivesGround$Ground", "harm", "I", "KnivesGround"), (RX7, 246, "KnivesGround$Ground", "pence", "I", "KnivesGround"), (RX7, 21, "KnivesGround$Whole", "grinds", "LKnivesGround$Text;", "KnivesGround"), (RX7, 25, "KnivesGround$Whole", "harms", "LKnivesGround$Text;", "KnivesGround"), (RX7, 72, "KnivesGround$Whole", "ground", "LKnivesGround$Ground;", "KnivesGround"), (RX7, 150, "KnivesGround$Whole", "tape", "[I", "KnivesGround"), (RX7, 307, "KnivesGround$Whole", "waiting", "[I", "KnivesGround"), (RX7, 147, "KnivesGround$Whole", "bytes", "I", "KnivesGround"), (RX7, 304, "KnivesGround$Whole", "waits", "I", "KnivesGround"), (RX7, 255, "KnivesGround$Whole", "z", "I", "KnivesGround"), (RX7, 161, "KnivesGround$Reader", "text", "LKnivesGround$Text;", "KnivesGround"), (RX7, 268, "KnivesGround$Voices", "trace", "[I", "KnivesGround"), (RX7, 265, "KnivesGround$Voices", "bodies", "I", "KnivesGround"), (RX0, 118, "KnivesGround$Sheet", "numbers", "[I", "KnivesGround"), (RX7, 284, "KnivesGround$Sheet", "numbers", "[I", "KnivesGround"), (RX7, 278, "KnivesGround$Sheet", "bits", "I", "KnivesGround"), (RX0, 115, "KnivesGround$Sheet", "many", "I", "KnivesGround"), (RX7, 232, "KnivesGround$Sheet", "many", "I", "KnivesGround"), (RX1, 34, "KnivesGround", "KIND_ABOVE", "[I", "KnivesGround")]
abbrev NWM : List (String × Nat × MethodName × String) := [(RX7, 11, yX6_init, "KnivesGround"), (RX6, 11, yX4_init, "KnivesGround"), (RX6, 23, yX0_init, "KnivesGround"), (RX0, 28, yX1_init, "KnivesGround"), (RX6, 41, yX4_clear, "KnivesGround"), (RX7, 28, yX0_init, "KnivesGround"), (RX7, 37, yX2_init, "KnivesGround"), (RX2, 11, yX4_init, "KnivesGround"), (RX7, 44, yX5_init, "KnivesGround"), (RX7, 59, yX3_init, "KnivesGround"), (RX7, 75, yX0_setGrinder, "KnivesGround"), (RX7, 79, yX0_setInArea, "KnivesGround"), (RX7, 95, yX1_turnInto, "KnivesGround"), (RX7, 126, yX0_gainsOf, "KnivesGround"), (RX0, 93, yX4_gives, "KnivesGround"), (RX0, 105, yX1_gains, "KnivesGround"), (RX7, 130, yX1_needs, "KnivesGround"), (RX7, 134, yX1_dulls, "KnivesGround"), (RX7, 140, yX1_changeTo, "KnivesGround"), (RX7, 143, yX1_isOfKind, "KnivesGround"), (RX7, 153, yX2_read, "KnivesGround"), (RX2, 44, yX4_clear, "KnivesGround"), (RX2, 88, yX7_isWithin, "KnivesGround"), (RX2, 62, yX4_add, "KnivesGround"), (RX7, 157, yX6_textOf, "KnivesGround"), (RX7, 164, yX4_copyFrom, "KnivesGround"), (RX7, 170, yX4_gives, "KnivesGround"), (RX7, 178, yX0_passDay, "KnivesGround"), (RX0, 79, yX1_needs, "KnivesGround"), (RX0, 111, yX7_isWithin, "KnivesGround"), (RX0, 99, yX1_dulls, "KnivesGround"), (RX7, 182, yX0_endedMany, "KnivesGround"), (RX7, 185, yX6_draw, "KnivesGround"), (RX7, 315, yX0_copyFrom, "KnivesGround"), (RX0, 32, yX1_copyFrom, "KnivesGround"), (RX7, 198, yX0_setEnded, "KnivesGround"), (RX7, 204, yX0_setItHangsOn, "KnivesGround"), (RX7, 212, yX0_sharpen, "KnivesGround"), (RX7, 228, yX3_isMissing, "KnivesGround"), (RX7, 233, yX0_hasEdges, "KnivesGround"), (RX7, 240, yX0_restDay, "KnivesGround"), (RX7, 243, yX0_setHangingOn, "KnivesGround"), (RX7, 249, yX0_setFree, "KnivesGround"), (RX7, 258, yX5_beginWith, "KnivesGround"), (RX7, 262, yX5_say, "KnivesGround"), (RX7, 271, yX3_lay, "KnivesGround"), (RX7, 275, yX3_write, "KnivesGround"), (RX7, 281, yX3_hasNumbers, "KnivesGround"), (RX7, 298, yX6_copyFrom, "KnivesGround"), (RX6, 46, yX4_copyFrom, "KnivesGround"), (RX6, 50, yX0_copyFrom, "KnivesGround"), (RX7, 310, yX0_edgesTogether, "KnivesGround")]
abbrev nwf (q : String × Nat × String × String × String × String) : Cond := .fieldLinkNest q.1 q.2.1 q.2.2.1 q.2.2.2.1 q.2.2.2.2.1 q.2.2.2.2.2
abbrev nwm (q : String × Nat × MethodName × String) : Cond := .methodLinkNest q.1 q.2.1 q.2.2.1 q.2.2.2
end
section
theorem tk_1 : ∀ w ∈ tables_1_1, w ∈ lw_tbl := fun w h => List.mem_append_right _ (List.mem_append_left _ h)
theorem tk_2 : ∀ w ∈ tables_1_2, w ∈ lw_tbl := fun w h => List.mem_append_right _ (List.mem_append_right _ (List.mem_append_left _ h))
theorem tk_3 : ∀ w ∈ tables_1_3, w ∈ lw_tbl := fun w h => List.mem_append_right _ (List.mem_append_right _ (List.mem_append_right _ (List.mem_append_left _ h)))
theorem tk_4 : ∀ w ∈ tables_1_4, w ∈ lw_tbl := fun w h => List.mem_append_right _ (List.mem_append_right _ (List.mem_append_right _ (List.mem_append_right _ (List.mem_append_left _ h))))
theorem tk_5 : ∀ w ∈ tables_1_5, w ∈ lw_tbl := fun w h => List.mem_append_right _ (List.mem_append_right _ (List.mem_append_right _ (List.mem_append_right _ (List.mem_append_right _ (h)))))
theorem pk_1 : ∀ x ∈ lw_privs_1, Cond.selects x.1.cls x.1 x.1 ∈ lw_tbl := fun x h => List.mem_append_left _ (List.mem_map.mpr ⟨x, List.mem_append_left _ h, rfl⟩)
theorem pk_2 : ∀ x ∈ lw_privs_2, Cond.selects x.1.cls x.1 x.1 ∈ lw_tbl := fun x h => List.mem_append_left _ (List.mem_map.mpr ⟨x, List.mem_append_right _ (List.mem_append_left _ h), rfl⟩)
theorem pk_3 : ∀ x ∈ lw_privs_3, Cond.selects x.1.cls x.1 x.1 ∈ lw_tbl := fun x h => List.mem_append_left _ (List.mem_map.mpr ⟨x, List.mem_append_right _ (List.mem_append_right _ (List.mem_append_left _ h)), rfl⟩)
theorem pk_4 : ∀ x ∈ lw_privs_4, Cond.selects x.1.cls x.1 x.1 ∈ lw_tbl := fun x h => List.mem_append_left _ (List.mem_map.mpr ⟨x, List.mem_append_right _ (List.mem_append_right _ (List.mem_append_right _ (List.mem_append_left _ h))), rfl⟩)
theorem pk_5 : ∀ x ∈ lw_privs_5, Cond.selects x.1.cls x.1 x.1 ∈ lw_tbl := fun x h => List.mem_append_left _ (List.mem_map.mpr ⟨x, List.mem_append_right _ (List.mem_append_right _ (List.mem_append_right _ (List.mem_append_right _ (List.mem_append_left _ h)))), rfl⟩)
theorem pk_6 : ∀ x ∈ lw_privs_6, Cond.selects x.1.cls x.1 x.1 ∈ lw_tbl := fun x h => List.mem_append_left _ (List.mem_map.mpr ⟨x, List.mem_append_right _ (List.mem_append_right _ (List.mem_append_right _ (List.mem_append_right _ (List.mem_append_right _ (List.mem_append_left _ h))))), rfl⟩)
theorem pk_7 : ∀ x ∈ lw_privs_7, Cond.selects x.1.cls x.1 x.1 ∈ lw_tbl := fun x h => List.mem_append_left _ (List.mem_map.mpr ⟨x, List.mem_append_right _ (List.mem_append_right _ (List.mem_append_right _ (List.mem_append_right _ (List.mem_append_right _ (List.mem_append_right _ (h)))))), rfl⟩)
set_option maxRecDepth 100000 in
theorem it_wsL_law_r1 : ∀ w ∈ wsL_law_r1, w ∈ lw_tbl := List.forall_mem_cons.mpr ⟨(tk_1 _ (List.mem_of_getElem? (i := 13) rfl)), List.forall_mem_cons.mpr ⟨(tk_1 _ (List.mem_of_getElem? (i := 14) rfl)), List.forall_mem_cons.mpr ⟨(tk_1 _ (List.mem_of_getElem? (i := 1) rfl)), List.forall_mem_cons.mpr ⟨(tk_4 _ (List.mem_of_getElem? (i := 20) rfl)), List.forall_mem_cons.mpr ⟨(tk_4 _ (List.mem_of_getElem? (i := 21) rfl)), List.forall_mem_cons.mpr ⟨(tk_1 _ (List.mem_of_getElem? (i := 9) rfl)), List.forall_mem_cons.mpr ⟨(tk_5 _ (List.mem_of_getElem? (i := 219) rfl)), List.forall_mem_cons.mpr ⟨(tk_1 _ (List.mem_of_getElem? (i := 15) rfl)), List.forall_mem_cons.mpr ⟨(tk_1 _ (List.mem_of_getElem? (i := 16) rfl)), List.forall_mem_cons.mpr ⟨(tk_1 _ (List.mem_of_getElem? (i := 17) rfl)), List.forall_mem_cons.mpr ⟨(tk_1 _ (List.mem_of_getElem? (i := 18) rfl)), List.forall_mem_cons.mpr ⟨(tk_1 _ (List.mem_of_getElem? (i := 19) rfl)), List.forall_mem_cons.mpr ⟨(tk_1 _ (List.mem_of_getElem? (i := 20) rfl)), List.forall_mem_cons.mpr ⟨(tk_1 _ (List.mem_of_getElem? (i := 21) rfl)), List.forall_mem_cons.mpr ⟨(tk_1 _ (List.mem_of_getElem? (i := 22) rfl)), List.forall_mem_cons.mpr ⟨(tk_1 _ (List.mem_of_getElem? (i := 2) rfl)), List.forall_mem_cons.mpr ⟨(tk_2 _ (List.mem_of_getElem? (i := 7) rfl)), List.forall_mem_cons.mpr ⟨(tk_2 _ (List.mem_of_getElem? (i := 8) rfl)), List.forall_mem_cons.mpr ⟨(tk_1 _ (List.mem_of_getElem? (i := 174) rfl)), List.forall_mem_cons.mpr ⟨(tk_1 _ (List.mem_of_getElem? (i := 55) rfl)), List.forall_mem_cons.mpr ⟨(tk_1 _ (List.mem_of_getElem? (i := 4) rfl)), List.forall_mem_cons.mpr ⟨(tk_2 _ (List.mem_of_getElem? (i := 9) rfl)), List.forall_mem_cons.mpr ⟨(tk_1 _ (List.mem_of_getElem? (i := 176) rfl)), List.forall_mem_cons.mpr ⟨(tk_1 _ (List.mem_of_getElem? (i := 177) rfl)), fun _ h => absurd h List.not_mem_nil⟩⟩⟩⟩⟩⟩⟩⟩⟩⟩⟩⟩⟩⟩⟩⟩⟩⟩⟩⟩⟩⟩⟩⟩
set_option maxRecDepth 100000 in
theorem it_wsL_law_r2 : ∀ w ∈ wsL_law_r2, w ∈ lw_tbl := List.forall_mem_cons.mpr ⟨(tk_1 _ (List.mem_of_getElem? (i := 6) rfl)), List.forall_mem_cons.mpr ⟨(tk_2 _ (List.mem_of_getElem? (i := 10) rfl)), List.forall_mem_cons.mpr ⟨(tk_1 _ (List.mem_of_getElem? (i := 201) rfl)), List.forall_mem_cons.mpr ⟨(tk_1 _ (List.mem_of_getElem? (i := 202) rfl)), List.forall_mem_cons.mpr ⟨(tk_1 _ (List.mem_of_getElem? (i := 7) rfl)), List.forall_mem_cons.mpr ⟨(tk_2 _ (List.mem_of_getElem? (i := 11) rfl)), List.forall_mem_cons.mpr ⟨(tk_1 _ (List.mem_of_getElem? (i := 225) rfl)), List.forall_mem_cons.mpr ⟨(tk_2 _ (List.mem_of_getElem? (i := 12) rfl)), List.forall_mem_cons.mpr ⟨(tk_1 _ (List.mem_of_getElem? (i := 53) rfl)), List.forall_mem_cons.mpr ⟨(tk_2 _ (List.mem_of_getElem? (i := 13) rfl)), List.forall_mem_cons.mpr ⟨(tk_1 _ (List.mem_of_getElem? (i := 227) rfl)), List.forall_mem_cons.mpr ⟨(tk_1 _ (List.mem_of_getElem? (i := 8) rfl)), List.forall_mem_cons.mpr ⟨(tk_1 _ (List.mem_of_getElem? (i := 24) rfl)), List.forall_mem_cons.mpr ⟨(tk_1 _ (List.mem_of_getElem? (i := 25) rfl)), List.forall_mem_cons.mpr ⟨(tk_1 _ (List.mem_of_getElem? (i := 26) rfl)), List.forall_mem_cons.mpr ⟨(tk_1 _ (List.mem_of_getElem? (i := 27) rfl)), List.forall_mem_cons.mpr ⟨(tk_1 _ (List.mem_of_getElem? (i := 28) rfl)), List.forall_mem_cons.mpr ⟨(tk_1 _ (List.mem_of_getElem? (i := 3) rfl)), List.forall_mem_cons.mpr ⟨(tk_1 _ (List.mem_of_getElem? (i := 141) rfl)), List.forall_mem_cons.mpr ⟨(tk_1 _ (List.mem_of_getElem? (i := 143) rfl)), List.forall_mem_cons.mpr ⟨(tk_1 _ (List.mem_of_getElem? (i := 54) rfl)), List.forall_mem_cons.mpr ⟨(tk_1 _ (List.mem_of_getElem? (i := 145) rfl)), List.forall_mem_cons.mpr ⟨(tk_1 _ (List.mem_of_getElem? (i := 147) rfl)), List.forall_mem_cons.mpr ⟨(tk_1 _ (List.mem_of_getElem? (i := 149) rfl)), fun _ h => absurd h List.not_mem_nil⟩⟩⟩⟩⟩⟩⟩⟩⟩⟩⟩⟩⟩⟩⟩⟩⟩⟩⟩⟩⟩⟩⟩⟩
set_option maxRecDepth 100000 in
theorem it_wsL_law_r3 : ∀ w ∈ wsL_law_r3, w ∈ lw_tbl := List.forall_mem_cons.mpr ⟨(tk_1 _ (List.mem_of_getElem? (i := 155) rfl)), List.forall_mem_cons.mpr ⟨(tk_1 _ (List.mem_of_getElem? (i := 30) rfl)), List.forall_mem_cons.mpr ⟨(tk_1 _ (List.mem_of_getElem? (i := 31) rfl)), List.forall_mem_cons.mpr ⟨(tk_1 _ (List.mem_of_getElem? (i := 32) rfl)), List.forall_mem_cons.mpr ⟨(tk_1 _ (List.mem_of_getElem? (i := 33) rfl)), List.forall_mem_cons.mpr ⟨(tk_1 _ (List.mem_of_getElem? (i := 34) rfl)), List.forall_mem_cons.mpr ⟨(tk_1 _ (List.mem_of_getElem? (i := 35) rfl)), List.forall_mem_cons.mpr ⟨(tk_1 _ (List.mem_of_getElem? (i := 36) rfl)), List.forall_mem_cons.mpr ⟨(tk_1 _ (List.mem_of_getElem? (i := 57) rfl)), List.forall_mem_cons.mpr ⟨(tk_1 _ (List.mem_of_getElem? (i := 58) rfl)), List.forall_mem_cons.mpr ⟨(tk_1 _ (List.mem_of_getElem? (i := 59) rfl)), List.forall_mem_cons.mpr ⟨(tk_1 _ (List.mem_of_getElem? (i := 60) rfl)), List.forall_mem_cons.mpr ⟨(tk_1 _ (List.mem_of_getElem? (i := 104) rfl)), List.forall_mem_cons.mpr ⟨(tk_1 _ (List.mem_of_getElem? (i := 110) rfl)), List.forall_mem_cons.mpr ⟨(tk_1 _ (List.mem_of_getElem? (i := 102) rfl)), List.forall_mem_cons.mpr ⟨(tk_1 _ (List.mem_of_getElem? (i := 103) rfl)), List.forall_mem_cons.mpr ⟨(tk_1 _ (List.mem_of_getElem? (i := 62) rfl)), List.forall_mem_cons.mpr ⟨(tk_1 _ (List.mem_of_getElem? (i := 5) rfl)), List.forall_mem_cons.mpr ⟨(tk_1 _ (List.mem_of_getElem? (i := 64) rfl)), List.forall_mem_cons.mpr ⟨(tk_1 _ (List.mem_of_getElem? (i := 65) rfl)), List.forall_mem_cons.mpr ⟨(tk_1 _ (List.mem_of_getElem? (i := 66) rfl)), List.forall_mem_cons.mpr ⟨(tk_1 _ (List.mem_of_getElem? (i := 139) rfl)), List.forall_mem_cons.mpr ⟨(pk_1 _ (List.mem_of_getElem? (i := 0) rfl)), List.forall_mem_cons.mpr ⟨(tk_1 _ (List.mem_of_getElem? (i := 140) rfl)), fun _ h => absurd h List.not_mem_nil⟩⟩⟩⟩⟩⟩⟩⟩⟩⟩⟩⟩⟩⟩⟩⟩⟩⟩⟩⟩⟩⟩⟩⟩
set_option maxRecDepth 100000 in
theorem it_wsL_law_r4 : ∀ w ∈ wsL_law_r4, w ∈ lw_tbl := List.forall_mem_cons.mpr ⟨(tk_1 _ (List.mem_of_getElem? (i := 37) rfl)), List.forall_mem_cons.mpr ⟨(tk_1 _ (List.mem_of_getElem? (i := 39) rfl)), List.forall_mem_cons.mpr ⟨(tk_1 _ (List.mem_of_getElem? (i := 179) rfl)), List.forall_mem_cons.mpr ⟨(tk_1 _ (List.mem_of_getElem? (i := 180) rfl)), List.forall_mem_cons.mpr ⟨(tk_1 _ (List.mem_of_getElem? (i := 181) rfl)), List.forall_mem_cons.mpr ⟨(tk_1 _ (List.mem_of_getElem? (i := 182) rfl)), List.forall_mem_cons.mpr ⟨(tk_1 _ (List.mem_of_getElem? (i := 184) rfl)), List.forall_mem_cons.mpr ⟨(tk_1 _ (List.mem_of_getElem? (i := 186) rfl)), List.forall_mem_cons.mpr ⟨(tk_1 _ (List.mem_of_getElem? (i := 204) rfl)), List.forall_mem_cons.mpr ⟨(tk_1 _ (List.mem_of_getElem? (i := 205) rfl)), List.forall_mem_cons.mpr ⟨(tk_1 _ (List.mem_of_getElem? (i := 206) rfl)), List.forall_mem_cons.mpr ⟨(tk_1 _ (List.mem_of_getElem? (i := 207) rfl)), List.forall_mem_cons.mpr ⟨(tk_1 _ (List.mem_of_getElem? (i := 229) rfl)), List.forall_mem_cons.mpr ⟨(tk_1 _ (List.mem_of_getElem? (i := 230) rfl)), List.forall_mem_cons.mpr ⟨(tk_1 _ (List.mem_of_getElem? (i := 231) rfl)), List.forall_mem_cons.mpr ⟨(tk_1 _ (List.mem_of_getElem? (i := 232) rfl)), List.forall_mem_cons.mpr ⟨(tk_4 _ (List.mem_of_getElem? (i := 22) rfl)), List.forall_mem_cons.mpr ⟨(tk_4 _ (List.mem_of_getElem? (i := 23) rfl)), List.forall_mem_cons.mpr ⟨(tk_4 _ (List.mem_of_getElem? (i := 24) rfl)), List.forall_mem_cons.mpr ⟨(tk_4 _ (List.mem_of_getElem? (i := 25) rfl)), List.forall_mem_cons.mpr ⟨(tk_4 _ (List.mem_of_getElem? (i := 26) rfl)), List.forall_mem_cons.mpr ⟨(tk_4 _ (List.mem_of_getElem? (i := 27) rfl)), List.forall_mem_cons.mpr ⟨(tk_4 _ (List.mem_of_getElem? (i := 28) rfl)), List.forall_mem_cons.mpr ⟨(tk_4 _ (List.mem_of_getElem? (i := 31) rfl)), fun _ h => absurd h List.not_mem_nil⟩⟩⟩⟩⟩⟩⟩⟩⟩⟩⟩⟩⟩⟩⟩⟩⟩⟩⟩⟩⟩⟩⟩⟩
set_option maxRecDepth 100000 in
theorem it_wsL_law_r5 : ∀ w ∈ wsL_law_r5, w ∈ lw_tbl := List.forall_mem_cons.mpr ⟨(tk_4 _ (List.mem_of_getElem? (i := 38) rfl)), List.forall_mem_cons.mpr ⟨(tk_4 _ (List.mem_of_getElem? (i := 39) rfl)), List.forall_mem_cons.mpr ⟨(tk_4 _ (List.mem_of_getElem? (i := 40) rfl)), List.forall_mem_cons.mpr ⟨(tk_4 _ (List.mem_of_getElem? (i := 41) rfl)), List.forall_mem_cons.mpr ⟨(tk_4 _ (List.mem_of_getElem? (i := 42) rfl)), List.forall_mem_cons.mpr ⟨(tk_4 _ (List.mem_of_getElem? (i := 43) rfl)), List.forall_mem_cons.mpr ⟨(tk_4 _ (List.mem_of_getElem? (i := 44) rfl)), List.forall_mem_cons.mpr ⟨(tk_4 _ (List.mem_of_getElem? (i := 45) rfl)), List.forall_mem_cons.mpr ⟨(tk_2 _ (List.mem_of_getElem? (i := 32) rfl)), List.forall_mem_cons.mpr ⟨(tk_2 _ (List.mem_of_getElem? (i := 33) rfl)), List.forall_mem_cons.mpr ⟨(tk_2 _ (List.mem_of_getElem? (i := 34) rfl)), List.forall_mem_cons.mpr ⟨(tk_2 _ (List.mem_of_getElem? (i := 35) rfl)), List.forall_mem_cons.mpr ⟨(tk_2 _ (List.mem_of_getElem? (i := 43) rfl)), List.forall_mem_cons.mpr ⟨(tk_2 _ (List.mem_of_getElem? (i := 36) rfl)), List.forall_mem_cons.mpr ⟨(tk_2 _ (List.mem_of_getElem? (i := 37) rfl)), List.forall_mem_cons.mpr ⟨(tk_2 _ (List.mem_of_getElem? (i := 38) rfl)), List.forall_mem_cons.mpr ⟨(tk_2 _ (List.mem_of_getElem? (i := 39) rfl)), List.forall_mem_cons.mpr ⟨(tk_2 _ (List.mem_of_getElem? (i := 40) rfl)), List.forall_mem_cons.mpr ⟨(tk_2 _ (List.mem_of_getElem? (i := 41) rfl)), List.forall_mem_cons.mpr ⟨(tk_2 _ (List.mem_of_getElem? (i := 42) rfl)), List.forall_mem_cons.mpr ⟨(tk_2 _ (List.mem_of_getElem? (i := 44) rfl)), List.forall_mem_cons.mpr ⟨(tk_2 _ (List.mem_of_getElem? (i := 46) rfl)), List.forall_mem_cons.mpr ⟨(pk_1 _ (List.mem_of_getElem? (i := 1) rfl)), List.forall_mem_cons.mpr ⟨(tk_2 _ (List.mem_of_getElem? (i := 47) rfl)), fun _ h => absurd h List.not_mem_nil⟩⟩⟩⟩⟩⟩⟩⟩⟩⟩⟩⟩⟩⟩⟩⟩⟩⟩⟩⟩⟩⟩⟩⟩
set_option maxRecDepth 100000 in
theorem it_wsL_law_r6 : ∀ w ∈ wsL_law_r6, w ∈ lw_tbl := List.forall_mem_cons.mpr ⟨(tk_2 _ (List.mem_of_getElem? (i := 48) rfl)), List.forall_mem_cons.mpr ⟨(tk_2 _ (List.mem_of_getElem? (i := 51) rfl)), List.forall_mem_cons.mpr ⟨(pk_1 _ (List.mem_of_getElem? (i := 2) rfl)), List.forall_mem_cons.mpr ⟨(tk_2 _ (List.mem_of_getElem? (i := 52) rfl)), List.forall_mem_cons.mpr ⟨(tk_1 _ (List.mem_of_getElem? (i := 108) rfl)), List.forall_mem_cons.mpr ⟨(tk_1 _ (List.mem_of_getElem? (i := 114) rfl)), List.forall_mem_cons.mpr ⟨(tk_1 _ (List.mem_of_getElem? (i := 116) rfl)), List.forall_mem_cons.mpr ⟨(tk_4 _ (List.mem_of_getElem? (i := 99) rfl)), List.forall_mem_cons.mpr ⟨(tk_4 _ (List.mem_of_getElem? (i := 100) rfl)), List.forall_mem_cons.mpr ⟨(tk_4 _ (List.mem_of_getElem? (i := 101) rfl)), List.forall_mem_cons.mpr ⟨(tk_4 _ (List.mem_of_getElem? (i := 102) rfl)), List.forall_mem_cons.mpr ⟨(tk_4 _ (List.mem_of_getElem? (i := 109) rfl)), List.forall_mem_cons.mpr ⟨(tk_4 _ (List.mem_of_getElem? (i := 114) rfl)), List.forall_mem_cons.mpr ⟨(tk_4 _ (List.mem_of_getElem? (i := 103) rfl)), List.forall_mem_cons.mpr ⟨(tk_4 _ (List.mem_of_getElem? (i := 104) rfl)), List.forall_mem_cons.mpr ⟨(tk_4 _ (List.mem_of_getElem? (i := 105) rfl)), List.forall_mem_cons.mpr ⟨(tk_4 _ (List.mem_of_getElem? (i := 106) rfl)), List.forall_mem_cons.mpr ⟨(tk_4 _ (List.mem_of_getElem? (i := 107) rfl)), List.forall_mem_cons.mpr ⟨(tk_4 _ (List.mem_of_getElem? (i := 108) rfl)), List.forall_mem_cons.mpr ⟨(tk_4 _ (List.mem_of_getElem? (i := 110) rfl)), List.forall_mem_cons.mpr ⟨(tk_4 _ (List.mem_of_getElem? (i := 112) rfl)), List.forall_mem_cons.mpr ⟨(pk_4 _ (List.mem_of_getElem? (i := 10) rfl)), List.forall_mem_cons.mpr ⟨(tk_4 _ (List.mem_of_getElem? (i := 113) rfl)), List.forall_mem_cons.mpr ⟨(tk_4 _ (List.mem_of_getElem? (i := 115) rfl)), fun _ h => absurd h List.not_mem_nil⟩⟩⟩⟩⟩⟩⟩⟩⟩⟩⟩⟩⟩⟩⟩⟩⟩⟩⟩⟩⟩⟩⟩⟩
set_option maxRecDepth 100000 in
theorem it_wsL_law_r7 : ∀ w ∈ wsL_law_r7, w ∈ lw_tbl := List.forall_mem_cons.mpr ⟨(tk_4 _ (List.mem_of_getElem? (i := 117) rfl)), List.forall_mem_cons.mpr ⟨(pk_4 _ (List.mem_of_getElem? (i := 11) rfl)), List.forall_mem_cons.mpr ⟨(tk_4 _ (List.mem_of_getElem? (i := 118) rfl)), List.forall_mem_cons.mpr ⟨(tk_4 _ (List.mem_of_getElem? (i := 119) rfl)), List.forall_mem_cons.mpr ⟨(tk_2 _ (List.mem_of_getElem? (i := 53) rfl)), List.forall_mem_cons.mpr ⟨(tk_2 _ (List.mem_of_getElem? (i := 54) rfl)), List.forall_mem_cons.mpr ⟨(tk_2 _ (List.mem_of_getElem? (i := 55) rfl)), List.forall_mem_cons.mpr ⟨(tk_2 _ (List.mem_of_getElem? (i := 56) rfl)), List.forall_mem_cons.mpr ⟨(tk_2 _ (List.mem_of_getElem? (i := 59) rfl)), List.forall_mem_cons.mpr ⟨(pk_1 _ (List.mem_of_getElem? (i := 3) rfl)), List.forall_mem_cons.mpr ⟨(tk_2 _ (List.mem_of_getElem? (i := 60) rfl)), List.forall_mem_cons.mpr ⟨(tk_1 _ (List.mem_of_getElem? (i := 106) rfl)), List.forall_mem_cons.mpr ⟨(tk_4 _ (List.mem_of_getElem? (i := 120) rfl)), List.forall_mem_cons.mpr ⟨(tk_4 _ (List.mem_of_getElem? (i := 121) rfl)), List.forall_mem_cons.mpr ⟨(tk_4 _ (List.mem_of_getElem? (i := 122) rfl)), List.forall_mem_cons.mpr ⟨(tk_4 _ (List.mem_of_getElem? (i := 123) rfl)), List.forall_mem_cons.mpr ⟨(tk_4 _ (List.mem_of_getElem? (i := 124) rfl)), List.forall_mem_cons.mpr ⟨(tk_4 _ (List.mem_of_getElem? (i := 126) rfl)), List.forall_mem_cons.mpr ⟨(pk_4 _ (List.mem_of_getElem? (i := 12) rfl)), List.forall_mem_cons.mpr ⟨(tk_4 _ (List.mem_of_getElem? (i := 127) rfl)), List.forall_mem_cons.mpr ⟨(tk_2 _ (List.mem_of_getElem? (i := 61) rfl)), List.forall_mem_cons.mpr ⟨(tk_2 _ (List.mem_of_getElem? (i := 62) rfl)), List.forall_mem_cons.mpr ⟨(tk_2 _ (List.mem_of_getElem? (i := 63) rfl)), List.forall_mem_cons.mpr ⟨(tk_2 _ (List.mem_of_getElem? (i := 64) rfl)), fun _ h => absurd h List.not_mem_nil⟩⟩⟩⟩⟩⟩⟩⟩⟩⟩⟩⟩⟩⟩⟩⟩⟩⟩⟩⟩⟩⟩⟩⟩
set_option maxRecDepth 100000 in
theorem it_wsL_law_r8 : ∀ w ∈ wsL_law_r8, w ∈ lw_tbl := List.forall_mem_cons.mpr ⟨(tk_2 _ (List.mem_of_getElem? (i := 68) rfl)), List.forall_mem_cons.mpr ⟨(tk_2 _ (List.mem_of_getElem? (i := 65) rfl)), List.forall_mem_cons.mpr ⟨(tk_2 _ (List.mem_of_getElem? (i := 66) rfl)), List.forall_mem_cons.mpr ⟨(tk_2 _ (List.mem_of_getElem? (i := 67) rfl)), List.forall_mem_cons.mpr ⟨(tk_2 _ (List.mem_of_getElem? (i := 71) rfl)), List.forall_mem_cons.mpr ⟨(pk_1 _ (List.mem_of_getElem? (i := 4) rfl)), List.forall_mem_cons.mpr ⟨(tk_2 _ (List.mem_of_getElem? (i := 72) rfl)), List.forall_mem_cons.mpr ⟨(tk_1 _ (List.mem_of_getElem? (i := 67) rfl)), List.forall_mem_cons.mpr ⟨(tk_1 _ (List.mem_of_getElem? (i := 69) rfl)), List.forall_mem_cons.mpr ⟨(tk_4 _ (List.mem_of_getElem? (i := 128) rfl)), List.forall_mem_cons.mpr ⟨(tk_4 _ (List.mem_of_getElem? (i := 129) rfl)), List.forall_mem_cons.mpr ⟨(tk_4 _ (List.mem_of_getElem? (i := 130) rfl)), List.forall_mem_cons.mpr ⟨(tk_4 _ (List.mem_of_getElem? (i := 131) rfl)), List.forall_mem_cons.mpr ⟨(tk_4 _ (List.mem_of_getElem? (i := 132) rfl)), List.forall_mem_cons.mpr ⟨(tk_4 _ (List.mem_of_getElem? (i := 133) rfl)), List.forall_mem_cons.mpr ⟨(tk_4 _ (List.mem_of_getElem? (i := 135) rfl)), List.forall_mem_cons.mpr ⟨(pk_4 _ (List.mem_of_getElem? (i := 13) rfl)), List.forall_mem_cons.mpr ⟨(tk_4 _ (List.mem_of_getElem? (i := 136) rfl)), List.forall_mem_cons.mpr ⟨(tk_2 _ (List.mem_of_getElem? (i := 73) rfl)), List.forall_mem_cons.mpr ⟨(tk_2 _ (List.mem_of_getElem? (i := 74) rfl)), List.forall_mem_cons.mpr ⟨(tk_2 _ (List.mem_of_getElem? (i := 75) rfl)), List.forall_mem_cons.mpr ⟨(tk_2 _ (List.mem_of_getElem? (i := 76) rfl)), List.forall_mem_cons.mpr ⟨(tk_2 _ (List.mem_of_getElem? (i := 77) rfl)), List.forall_mem_cons.mpr ⟨(tk_2 _ (List.mem_of_getElem? (i := 79) rfl)), fun _ h => absurd h List.not_mem_nil⟩⟩⟩⟩⟩⟩⟩⟩⟩⟩⟩⟩⟩⟩⟩⟩⟩⟩⟩⟩⟩⟩⟩⟩
set_option maxRecDepth 100000 in
theorem it_wsL_law_r9 : ∀ w ∈ wsL_law_r9, w ∈ lw_tbl := List.forall_mem_cons.mpr ⟨(pk_1 _ (List.mem_of_getElem? (i := 5) rfl)), List.forall_mem_cons.mpr ⟨(tk_2 _ (List.mem_of_getElem? (i := 80) rfl)), List.forall_mem_cons.mpr ⟨(tk_2 _ (List.mem_of_getElem? (i := 83) rfl)), List.forall_mem_cons.mpr ⟨(pk_1 _ (List.mem_of_getElem? (i := 6) rfl)), List.forall_mem_cons.mpr ⟨(tk_2 _ (List.mem_of_getElem? (i := 84) rfl)), List.forall_mem_cons.mpr ⟨(tk_1 _ (List.mem_of_getElem? (i := 112) rfl)), List.forall_mem_cons.mpr ⟨(tk_2 _ (List.mem_of_getElem? (i := 87) rfl)), List.forall_mem_cons.mpr ⟨(pk_1 _ (List.mem_of_getElem? (i := 7) rfl)), List.forall_mem_cons.mpr ⟨(tk_2 _ (List.mem_of_getElem? (i := 88) rfl)), List.forall_mem_cons.mpr ⟨(tk_2 _ (List.mem_of_getElem? (i := 96) rfl)), List.forall_mem_cons.mpr ⟨(tk_2 _ (List.mem_of_getElem? (i := 97) rfl)), List.forall_mem_cons.mpr ⟨(tk_1 _ (List.mem_of_getElem? (i := 10) rfl)), List.forall_mem_cons.mpr ⟨(tk_2 _ (List.mem_of_getElem? (i := 98) rfl)), List.forall_mem_cons.mpr ⟨(tk_2 _ (List.mem_of_getElem? (i := 99) rfl)), List.forall_mem_cons.mpr ⟨(tk_2 _ (List.mem_of_getElem? (i := 100) rfl)), List.forall_mem_cons.mpr ⟨(tk_2 _ (List.mem_of_getElem? (i := 101) rfl)), List.forall_mem_cons.mpr ⟨(tk_2 _ (List.mem_of_getElem? (i := 89) rfl)), List.forall_mem_cons.mpr ⟨(tk_2 _ (List.mem_of_getElem? (i := 91) rfl)), List.forall_mem_cons.mpr ⟨(pk_1 _ (List.mem_of_getElem? (i := 8) rfl)), List.forall_mem_cons.mpr ⟨(tk_2 _ (List.mem_of_getElem? (i := 92) rfl)), List.forall_mem_cons.mpr ⟨(tk_2 _ (List.mem_of_getElem? (i := 93) rfl)), List.forall_mem_cons.mpr ⟨(tk_2 _ (List.mem_of_getElem? (i := 94) rfl)), List.forall_mem_cons.mpr ⟨(tk_2 _ (List.mem_of_getElem? (i := 95) rfl)), List.forall_mem_cons.mpr ⟨(tk_2 _ (List.mem_of_getElem? (i := 104) rfl)), fun _ h => absurd h List.not_mem_nil⟩⟩⟩⟩⟩⟩⟩⟩⟩⟩⟩⟩⟩⟩⟩⟩⟩⟩⟩⟩⟩⟩⟩⟩
set_option maxRecDepth 100000 in
theorem it_wsL_law_r10 : ∀ w ∈ wsL_law_r10, w ∈ lw_tbl := List.forall_mem_cons.mpr ⟨(pk_1 _ (List.mem_of_getElem? (i := 9) rfl)), List.forall_mem_cons.mpr ⟨(tk_2 _ (List.mem_of_getElem? (i := 105) rfl)), List.forall_mem_cons.mpr ⟨(tk_1 _ (List.mem_of_getElem? (i := 81) rfl)), List.forall_mem_cons.mpr ⟨(tk_2 _ (List.mem_of_getElem? (i := 106) rfl)), List.forall_mem_cons.mpr ⟨(tk_2 _ (List.mem_of_getElem? (i := 109) rfl)), List.forall_mem_cons.mpr ⟨(pk_1 _ (List.mem_of_getElem? (i := 10) rfl)), List.forall_mem_cons.mpr ⟨(tk_2 _ (List.mem_of_getElem? (i := 110) rfl)), List.forall_mem_cons.mpr ⟨(tk_2 _ (List.mem_of_getElem? (i := 113) rfl)), List.forall_mem_cons.mpr ⟨(pk_1 _ (List.mem_of_getElem? (i := 11) rfl)), List.forall_mem_cons.mpr ⟨(tk_2 _ (List.mem_of_getElem? (i := 114) rfl)), List.forall_mem_cons.mpr ⟨(tk_4 _ (List.mem_of_getElem? (i := 137) rfl)), List.forall_mem_cons.mpr ⟨(tk_4 _ (List.mem_of_getElem? (i := 138) rfl)), List.forall_mem_cons.mpr ⟨(tk_4 _ (List.mem_of_getElem? (i := 139) rfl)), List.forall_mem_cons.mpr ⟨(tk_4 _ (List.mem_of_getElem? (i := 140) rfl)), List.forall_mem_cons.mpr ⟨(tk_4 _ (List.mem_of_getElem? (i := 141) rfl)), List.forall_mem_cons.mpr ⟨(tk_4 _ (List.mem_of_getElem? (i := 143) rfl)), List.forall_mem_cons.mpr ⟨(pk_4 _ (List.mem_of_getElem? (i := 14) rfl)), List.forall_mem_cons.mpr ⟨(tk_4 _ (List.mem_of_getElem? (i := 144) rfl)), List.forall_mem_cons.mpr ⟨(tk_4 _ (List.mem_of_getElem? (i := 145) rfl)), List.forall_mem_cons.mpr ⟨(tk_4 _ (List.mem_of_getElem? (i := 147) rfl)), List.forall_mem_cons.mpr ⟨(pk_4 _ (List.mem_of_getElem? (i := 15) rfl)), List.forall_mem_cons.mpr ⟨(tk_4 _ (List.mem_of_getElem? (i := 148) rfl)), List.forall_mem_cons.mpr ⟨(tk_4 _ (List.mem_of_getElem? (i := 149) rfl)), List.forall_mem_cons.mpr ⟨(tk_4 _ (List.mem_of_getElem? (i := 151) rfl)), fun _ h => absurd h List.not_mem_nil⟩⟩⟩⟩⟩⟩⟩⟩⟩⟩⟩⟩⟩⟩⟩⟩⟩⟩⟩⟩⟩⟩⟩⟩
set_option maxRecDepth 100000 in
theorem it_wsL_law_r11 : ∀ w ∈ wsL_law_r11, w ∈ lw_tbl := List.forall_mem_cons.mpr ⟨(pk_5 _ (List.mem_of_getElem? (i := 0) rfl)), List.forall_mem_cons.mpr ⟨(tk_4 _ (List.mem_of_getElem? (i := 152) rfl)), List.forall_mem_cons.mpr ⟨(tk_4 _ (List.mem_of_getElem? (i := 153) rfl)), List.forall_mem_cons.mpr ⟨(tk_4 _ (List.mem_of_getElem? (i := 155) rfl)), List.forall_mem_cons.mpr ⟨(pk_5 _ (List.mem_of_getElem? (i := 1) rfl)), List.forall_mem_cons.mpr ⟨(tk_4 _ (List.mem_of_getElem? (i := 156) rfl)), List.forall_mem_cons.mpr ⟨(tk_4 _ (List.mem_of_getElem? (i := 157) rfl)), List.forall_mem_cons.mpr ⟨(tk_4 _ (List.mem_of_getElem? (i := 158) rfl)), List.forall_mem_cons.mpr ⟨(tk_4 _ (List.mem_of_getElem? (i := 159) rfl)), List.forall_mem_cons.mpr ⟨(tk_4 _ (List.mem_of_getElem? (i := 160) rfl)), List.forall_mem_cons.mpr ⟨(tk_4 _ (List.mem_of_getElem? (i := 161) rfl)), List.forall_mem_cons.mpr ⟨(tk_4 _ (List.mem_of_getElem? (i := 162) rfl)), List.forall_mem_cons.mpr ⟨(tk_4 _ (List.mem_of_getElem? (i := 163) rfl)), List.forall_mem_cons.mpr ⟨(tk_4 _ (List.mem_of_getElem? (i := 165) rfl)), List.forall_mem_cons.mpr ⟨(pk_5 _ (List.mem_of_getElem? (i := 2) rfl)), List.forall_mem_cons.mpr ⟨(tk_4 _ (List.mem_of_getElem? (i := 166) rfl)), List.forall_mem_cons.mpr ⟨(tk_4 _ (List.mem_of_getElem? (i := 167) rfl)), List.forall_mem_cons.mpr ⟨(tk_4 _ (List.mem_of_getElem? (i := 169) rfl)), List.forall_mem_cons.mpr ⟨(pk_5 _ (List.mem_of_getElem? (i := 3) rfl)), List.forall_mem_cons.mpr ⟨(tk_4 _ (List.mem_of_getElem? (i := 170) rfl)), List.forall_mem_cons.mpr ⟨(tk_2 _ (List.mem_of_getElem? (i := 115) rfl)), List.forall_mem_cons.mpr ⟨(tk_2 _ (List.mem_of_getElem? (i := 116) rfl)), List.forall_mem_cons.mpr ⟨(tk_2 _ (List.mem_of_getElem? (i := 117) rfl)), List.forall_mem_cons.mpr ⟨(tk_2 _ (List.mem_of_getElem? (i := 118) rfl)), fun _ h => absurd h List.not_mem_nil⟩⟩⟩⟩⟩⟩⟩⟩⟩⟩⟩⟩⟩⟩⟩⟩⟩⟩⟩⟩⟩⟩⟩⟩
set_option maxRecDepth 100000 in
theorem it_wsL_law_r12 : ∀ w ∈ wsL_law_r12, w ∈ lw_tbl := List.forall_mem_cons.mpr ⟨(tk_2 _ (List.mem_of_getElem? (i := 119) rfl)), List.forall_mem_cons.mpr ⟨(tk_2 _ (List.mem_of_getElem? (i := 120) rfl)), List.forall_mem_cons.mpr ⟨(tk_2 _ (List.mem_of_getElem? (i := 121) rfl)), List.forall_mem_cons.mpr ⟨(tk_2 _ (List.mem_of_getElem? (i := 124) rfl)), List.forall_mem_cons.mpr ⟨(pk_1 _ (List.mem_of_getElem? (i := 12) rfl)), List.forall_mem_cons.mpr ⟨(tk_2 _ (List.mem_of_getElem? (i := 125) rfl)), List.forall_mem_cons.mpr ⟨(tk_1 _ (List.mem_of_getElem? (i := 72) rfl)), List.forall_mem_cons.mpr ⟨(tk_1 _ (List.mem_of_getElem? (i := 75) rfl)), List.forall_mem_cons.mpr ⟨(tk_1 _ (List.mem_of_getElem? (i := 84) rfl)), List.forall_mem_cons.mpr ⟨(tk_4 _ (List.mem_of_getElem? (i := 171) rfl)), List.forall_mem_cons.mpr ⟨(tk_4 _ (List.mem_of_getElem? (i := 172) rfl)), List.forall_mem_cons.mpr ⟨(tk_4 _ (List.mem_of_getElem? (i := 173) rfl)), List.forall_mem_cons.mpr ⟨(tk_4 _ (List.mem_of_getElem? (i := 174) rfl)), List.forall_mem_cons.mpr ⟨(tk_2 _ (List.mem_of_getElem? (i := 126) rfl)), List.forall_mem_cons.mpr ⟨(tk_2 _ (List.mem_of_getElem? (i := 127) rfl)), List.forall_mem_cons.mpr ⟨(tk_2 _ (List.mem_of_getElem? (i := 128) rfl)), List.forall_mem_cons.mpr ⟨(tk_2 _ (List.mem_of_getElem? (i := 129) rfl)), List.forall_mem_cons.mpr ⟨(tk_4 _ (List.mem_of_getElem? (i := 175) rfl)), List.forall_mem_cons.mpr ⟨(tk_4 _ (List.mem_of_getElem? (i := 176) rfl)), List.forall_mem_cons.mpr ⟨(tk_4 _ (List.mem_of_getElem? (i := 177) rfl)), List.forall_mem_cons.mpr ⟨(tk_4 _ (List.mem_of_getElem? (i := 178) rfl)), List.forall_mem_cons.mpr ⟨(tk_2 _ (List.mem_of_getElem? (i := 130) rfl)), List.forall_mem_cons.mpr ⟨(tk_2 _ (List.mem_of_getElem? (i := 131) rfl)), List.forall_mem_cons.mpr ⟨(tk_2 _ (List.mem_of_getElem? (i := 132) rfl)), fun _ h => absurd h List.not_mem_nil⟩⟩⟩⟩⟩⟩⟩⟩⟩⟩⟩⟩⟩⟩⟩⟩⟩⟩⟩⟩⟩⟩⟩⟩
set_option maxRecDepth 100000 in
theorem it_wsL_law_r13 : ∀ w ∈ wsL_law_r13, w ∈ lw_tbl := List.forall_mem_cons.mpr ⟨(tk_2 _ (List.mem_of_getElem? (i := 133) rfl)), List.forall_mem_cons.mpr ⟨(tk_2 _ (List.mem_of_getElem? (i := 140) rfl)), List.forall_mem_cons.mpr ⟨(tk_2 _ (List.mem_of_getElem? (i := 136) rfl)), List.forall_mem_cons.mpr ⟨(pk_1 _ (List.mem_of_getElem? (i := 13) rfl)), List.forall_mem_cons.mpr ⟨(tk_2 _ (List.mem_of_getElem? (i := 137) rfl)), List.forall_mem_cons.mpr ⟨(tk_4 _ (List.mem_of_getElem? (i := 179) rfl)), List.forall_mem_cons.mpr ⟨(tk_4 _ (List.mem_of_getElem? (i := 180) rfl)), List.forall_mem_cons.mpr ⟨(tk_4 _ (List.mem_of_getElem? (i := 181) rfl)), List.forall_mem_cons.mpr ⟨(tk_4 _ (List.mem_of_getElem? (i := 182) rfl)), List.forall_mem_cons.mpr ⟨(tk_4 _ (List.mem_of_getElem? (i := 186) rfl)), List.forall_mem_cons.mpr ⟨(tk_4 _ (List.mem_of_getElem? (i := 183) rfl)), List.forall_mem_cons.mpr ⟨(tk_4 _ (List.mem_of_getElem? (i := 184) rfl)), List.forall_mem_cons.mpr ⟨(tk_4 _ (List.mem_of_getElem? (i := 185) rfl)), List.forall_mem_cons.mpr ⟨(tk_2 _ (List.mem_of_getElem? (i := 141) rfl)), List.forall_mem_cons.mpr ⟨(tk_2 _ (List.mem_of_getElem? (i := 142) rfl)), List.forall_mem_cons.mpr ⟨(tk_2 _ (List.mem_of_getElem? (i := 143) rfl)), List.forall_mem_cons.mpr ⟨(tk_2 _ (List.mem_of_getElem? (i := 144) rfl)), List.forall_mem_cons.mpr ⟨(tk_4 _ (List.mem_of_getElem? (i := 191) rfl)), List.forall_mem_cons.mpr ⟨(tk_4 _ (List.mem_of_getElem? (i := 192) rfl)), List.forall_mem_cons.mpr ⟨(tk_4 _ (List.mem_of_getElem? (i := 193) rfl)), List.forall_mem_cons.mpr ⟨(tk_4 _ (List.mem_of_getElem? (i := 194) rfl)), List.forall_mem_cons.mpr ⟨(tk_4 _ (List.mem_of_getElem? (i := 195) rfl)), List.forall_mem_cons.mpr ⟨(tk_2 _ (List.mem_of_getElem? (i := 145) rfl)), List.forall_mem_cons.mpr ⟨(tk_2 _ (List.mem_of_getElem? (i := 146) rfl)), fun _ h => absurd h List.not_mem_nil⟩⟩⟩⟩⟩⟩⟩⟩⟩⟩⟩⟩⟩⟩⟩⟩⟩⟩⟩⟩⟩⟩⟩⟩
set_option maxRecDepth 100000 in
theorem it_wsL_law_r14 : ∀ w ∈ wsL_law_r14, w ∈ lw_tbl := List.forall_mem_cons.mpr ⟨(tk_2 _ (List.mem_of_getElem? (i := 147) rfl)), List.forall_mem_cons.mpr ⟨(tk_2 _ (List.mem_of_getElem? (i := 148) rfl)), List.forall_mem_cons.mpr ⟨(tk_2 _ (List.mem_of_getElem? (i := 151) rfl)), List.forall_mem_cons.mpr ⟨(pk_1 _ (List.mem_of_getElem? (i := 14) rfl)), List.forall_mem_cons.mpr ⟨(tk_2 _ (List.mem_of_getElem? (i := 152) rfl)), List.forall_mem_cons.mpr ⟨(tk_2 _ (List.mem_of_getElem? (i := 153) rfl)), List.forall_mem_cons.mpr ⟨(tk_1 _ (List.mem_of_getElem? (i := 187) rfl)), List.forall_mem_cons.mpr ⟨(tk_2 _ (List.mem_of_getElem? (i := 154) rfl)), List.forall_mem_cons.mpr ⟨(tk_2 _ (List.mem_of_getElem? (i := 156) rfl)), List.forall_mem_cons.mpr ⟨(tk_2 _ (List.mem_of_getElem? (i := 155) rfl)), List.forall_mem_cons.mpr ⟨(tk_1 _ (List.mem_of_getElem? (i := 11) rfl)), List.forall_mem_cons.mpr ⟨(tk_1 _ (List.mem_of_getElem? (i := 188) rfl)), List.forall_mem_cons.mpr ⟨(tk_1 _ (List.mem_of_getElem? (i := 189) rfl)), List.forall_mem_cons.mpr ⟨(tk_2 _ (List.mem_of_getElem? (i := 158) rfl)), List.forall_mem_cons.mpr ⟨(tk_2 _ (List.mem_of_getElem? (i := 160) rfl)), List.forall_mem_cons.mpr ⟨(pk_1 _ (List.mem_of_getElem? (i := 15) rfl)), List.forall_mem_cons.mpr ⟨(tk_2 _ (List.mem_of_getElem? (i := 161) rfl)), List.forall_mem_cons.mpr ⟨(tk_2 _ (List.mem_of_getElem? (i := 162) rfl)), List.forall_mem_cons.mpr ⟨(tk_2 _ (List.mem_of_getElem? (i := 164) rfl)), List.forall_mem_cons.mpr ⟨(pk_2 _ (List.mem_of_getElem? (i := 0) rfl)), List.forall_mem_cons.mpr ⟨(tk_2 _ (List.mem_of_getElem? (i := 166) rfl)), List.forall_mem_cons.mpr ⟨(tk_2 _ (List.mem_of_getElem? (i := 168) rfl)), List.forall_mem_cons.mpr ⟨(pk_2 _ (List.mem_of_getElem? (i := 1) rfl)), List.forall_mem_cons.mpr ⟨(tk_2 _ (List.mem_of_getElem? (i := 169) rfl)), fun _ h => absurd h List.not_mem_nil⟩⟩⟩⟩⟩⟩⟩⟩⟩⟩⟩⟩⟩⟩⟩⟩⟩⟩⟩⟩⟩⟩⟩⟩
set_option maxRecDepth 100000 in
theorem it_wsL_law_r15 : ∀ w ∈ wsL_law_r15, w ∈ lw_tbl := List.forall_mem_cons.mpr ⟨(tk_2 _ (List.mem_of_getElem? (i := 198) rfl)), List.forall_mem_cons.mpr ⟨(tk_2 _ (List.mem_of_getElem? (i := 199) rfl)), List.forall_mem_cons.mpr ⟨(tk_2 _ (List.mem_of_getElem? (i := 200) rfl)), List.forall_mem_cons.mpr ⟨(tk_2 _ (List.mem_of_getElem? (i := 180) rfl)), List.forall_mem_cons.mpr ⟨(pk_2 _ (List.mem_of_getElem? (i := 3) rfl)), List.forall_mem_cons.mpr ⟨(tk_2 _ (List.mem_of_getElem? (i := 181) rfl)), List.forall_mem_cons.mpr ⟨(tk_2 _ (List.mem_of_getElem? (i := 193) rfl)), List.forall_mem_cons.mpr ⟨(tk_2 _ (List.mem_of_getElem? (i := 194) rfl)), List.forall_mem_cons.mpr ⟨(tk_2 _ (List.mem_of_getElem? (i := 196) rfl)), List.forall_mem_cons.mpr ⟨(pk_2 _ (List.mem_of_getElem? (i := 7) rfl)), List.forall_mem_cons.mpr ⟨(tk_2 _ (List.mem_of_getElem? (i := 197) rfl)), List.forall_mem_cons.mpr ⟨(tk_2 _ (List.mem_of_getElem? (i := 165) rfl)), List.forall_mem_cons.mpr ⟨(tk_2 _ (List.mem_of_getElem? (i := 170) rfl)), List.forall_mem_cons.mpr ⟨(tk_2 _ (List.mem_of_getElem? (i := 171) rfl)), List.forall_mem_cons.mpr ⟨(tk_2 _ (List.mem_of_getElem? (i := 172) rfl)), List.forall_mem_cons.mpr ⟨(tk_2 _ (List.mem_of_getElem? (i := 174) rfl)), List.forall_mem_cons.mpr ⟨(tk_2 _ (List.mem_of_getElem? (i := 176) rfl)), List.forall_mem_cons.mpr ⟨(pk_2 _ (List.mem_of_getElem? (i := 2) rfl)), List.forall_mem_cons.mpr ⟨(tk_2 _ (List.mem_of_getElem? (i := 177) rfl)), List.forall_mem_cons.mpr ⟨(tk_2 _ (List.mem_of_getElem? (i := 182) rfl)), List.forall_mem_cons.mpr ⟨(tk_2 _ (List.mem_of_getElem? (i := 184) rfl)), List.forall_mem_cons.mpr ⟨(pk_2 _ (List.mem_of_getElem? (i := 4) rfl)), List.forall_mem_cons.mpr ⟨(tk_2 _ (List.mem_of_getElem? (i := 185) rfl)), List.forall_mem_cons.mpr ⟨(tk_2 _ (List.mem_of_getElem? (i := 186) rfl)), fun _ h => absurd h List.not_mem_nil⟩⟩⟩⟩⟩⟩⟩⟩⟩⟩⟩⟩⟩⟩⟩⟩⟩⟩⟩⟩⟩⟩⟩⟩
set_option maxRecDepth 100000 in
theorem it_wsL_law_r16 : ∀ w ∈ wsL_law_r16, w ∈ lw_tbl := List.forall_mem_cons.mpr ⟨(tk_2 _ (List.mem_of_getElem? (i := 188) rfl)), List.forall_mem_cons.mpr ⟨(pk_2 _ (List.mem_of_getElem? (i := 5) rfl)), List.forall_mem_cons.mpr ⟨(tk_2 _ (List.mem_of_getElem? (i := 190) rfl)), List.forall_mem_cons.mpr ⟨(tk_2 _ (List.mem_of_getElem? (i := 192) rfl)), List.forall_mem_cons.mpr ⟨(pk_2 _ (List.mem_of_getElem? (i := 6) rfl)), List.forall_mem_cons.mpr ⟨(tk_2 _ (List.mem_of_getElem? (i := 189) rfl)), List.forall_mem_cons.mpr ⟨(tk_2 _ (List.mem_of_getElem? (i := 203) rfl)), List.forall_mem_cons.mpr ⟨(pk_2 _ (List.mem_of_getElem? (i := 8) rfl)), List.forall_mem_cons.mpr ⟨(tk_2 _ (List.mem_of_getElem? (i := 204) rfl)), List.forall_mem_cons.mpr ⟨(tk_2 _ (List.mem_of_getElem? (i := 207) rfl)), List.forall_mem_cons.mpr ⟨(pk_2 _ (List.mem_of_getElem? (i := 9) rfl)), List.forall_mem_cons.mpr ⟨(tk_2 _ (List.mem_of_getElem? (i := 208) rfl)), List.forall_mem_cons.mpr ⟨(tk_2 _ (List.mem_of_getElem? (i := 209) rfl)), List.forall_mem_cons.mpr ⟨(tk_4 _ (List.mem_of_getElem? (i := 196) rfl)), List.forall_mem_cons.mpr ⟨(tk_4 _ (List.mem_of_getElem? (i := 197) rfl)), List.forall_mem_cons.mpr ⟨(tk_4 _ (List.mem_of_getElem? (i := 198) rfl)), List.forall_mem_cons.mpr ⟨(tk_4 _ (List.mem_of_getElem? (i := 199) rfl)), List.forall_mem_cons.mpr ⟨(tk_4 _ (List.mem_of_getElem? (i := 32) rfl)), List.forall_mem_cons.mpr ⟨(tk_4 _ (List.mem_of_getElem? (i := 33) rfl)), List.forall_mem_cons.mpr ⟨(tk_4 _ (List.mem_of_getElem? (i := 34) rfl)), List.forall_mem_cons.mpr ⟨(tk_4 _ (List.mem_of_getElem? (i := 35) rfl)), List.forall_mem_cons.mpr ⟨(tk_4 _ (List.mem_of_getElem? (i := 36) rfl)), List.forall_mem_cons.mpr ⟨(tk_4 _ (List.mem_of_getElem? (i := 37) rfl)), List.forall_mem_cons.mpr ⟨(tk_4 _ (List.mem_of_getElem? (i := 200) rfl)), fun _ h => absurd h List.not_mem_nil⟩⟩⟩⟩⟩⟩⟩⟩⟩⟩⟩⟩⟩⟩⟩⟩⟩⟩⟩⟩⟩⟩⟩⟩
set_option maxRecDepth 100000 in
theorem it_wsL_law_r17 : ∀ w ∈ wsL_law_r17, w ∈ lw_tbl := List.forall_mem_cons.mpr ⟨(tk_4 _ (List.mem_of_getElem? (i := 202) rfl)), List.forall_mem_cons.mpr ⟨(pk_5 _ (List.mem_of_getElem? (i := 4) rfl)), List.forall_mem_cons.mpr ⟨(tk_4 _ (List.mem_of_getElem? (i := 203) rfl)), List.forall_mem_cons.mpr ⟨(tk_4 _ (List.mem_of_getElem? (i := 204) rfl)), List.forall_mem_cons.mpr ⟨(tk_4 _ (List.mem_of_getElem? (i := 206) rfl)), List.forall_mem_cons.mpr ⟨(pk_5 _ (List.mem_of_getElem? (i := 5) rfl)), List.forall_mem_cons.mpr ⟨(tk_4 _ (List.mem_of_getElem? (i := 224) rfl)), List.forall_mem_cons.mpr ⟨(tk_4 _ (List.mem_of_getElem? (i := 226) rfl)), List.forall_mem_cons.mpr ⟨(pk_5 _ (List.mem_of_getElem? (i := 10) rfl)), List.forall_mem_cons.mpr ⟨(tk_4 _ (List.mem_of_getElem? (i := 227) rfl)), List.forall_mem_cons.mpr ⟨(tk_4 _ (List.mem_of_getElem? (i := 235) rfl)), List.forall_mem_cons.mpr ⟨(tk_4 _ (List.mem_of_getElem? (i := 237) rfl)), List.forall_mem_cons.mpr ⟨(pk_5 _ (List.mem_of_getElem? (i := 12) rfl)), List.forall_mem_cons.mpr ⟨(tk_4 _ (List.mem_of_getElem? (i := 238) rfl)), List.forall_mem_cons.mpr ⟨(tk_4 _ (List.mem_of_getElem? (i := 207) rfl)), List.forall_mem_cons.mpr ⟨(tk_4 _ (List.mem_of_getElem? (i := 208) rfl)), List.forall_mem_cons.mpr ⟨(tk_4 _ (List.mem_of_getElem? (i := 210) rfl)), List.forall_mem_cons.mpr ⟨(pk_5 _ (List.mem_of_getElem? (i := 6) rfl)), List.forall_mem_cons.mpr ⟨(tk_4 _ (List.mem_of_getElem? (i := 211) rfl)), List.forall_mem_cons.mpr ⟨(tk_4 _ (List.mem_of_getElem? (i := 212) rfl)), List.forall_mem_cons.mpr ⟨(tk_4 _ (List.mem_of_getElem? (i := 214) rfl)), List.forall_mem_cons.mpr ⟨(pk_5 _ (List.mem_of_getElem? (i := 7) rfl)), List.forall_mem_cons.mpr ⟨(tk_4 _ (List.mem_of_getElem? (i := 223) rfl)), List.forall_mem_cons.mpr ⟨(tk_4 _ (List.mem_of_getElem? (i := 228) rfl)), fun _ h => absurd h List.not_mem_nil⟩⟩⟩⟩⟩⟩⟩⟩⟩⟩⟩⟩⟩⟩⟩⟩⟩⟩⟩⟩⟩⟩⟩⟩
set_option maxRecDepth 100000 in
theorem it_wsL_law_r18 : ∀ w ∈ wsL_law_r18, w ∈ lw_tbl := List.forall_mem_cons.mpr ⟨(tk_4 _ (List.mem_of_getElem? (i := 229) rfl)), List.forall_mem_cons.mpr ⟨(tk_4 _ (List.mem_of_getElem? (i := 230) rfl)), List.forall_mem_cons.mpr ⟨(tk_4 _ (List.mem_of_getElem? (i := 231) rfl)), List.forall_mem_cons.mpr ⟨(tk_4 _ (List.mem_of_getElem? (i := 233) rfl)), List.forall_mem_cons.mpr ⟨(pk_5 _ (List.mem_of_getElem? (i := 11) rfl)), List.forall_mem_cons.mpr ⟨(tk_4 _ (List.mem_of_getElem? (i := 234) rfl)), List.forall_mem_cons.mpr ⟨(tk_4 _ (List.mem_of_getElem? (i := 239) rfl)), List.forall_mem_cons.mpr ⟨(tk_5 _ (List.mem_of_getElem? (i := 1) rfl)), List.forall_mem_cons.mpr ⟨(pk_5 _ (List.mem_of_getElem? (i := 13) rfl)), List.forall_mem_cons.mpr ⟨(tk_5 _ (List.mem_of_getElem? (i := 2) rfl)), List.forall_mem_cons.mpr ⟨(tk_4 _ (List.mem_of_getElem? (i := 220) rfl)), List.forall_mem_cons.mpr ⟨(tk_4 _ (List.mem_of_getElem? (i := 222) rfl)), List.forall_mem_cons.mpr ⟨(pk_5 _ (List.mem_of_getElem? (i := 9) rfl)), List.forall_mem_cons.mpr ⟨(tk_4 _ (List.mem_of_getElem? (i := 219) rfl)), List.forall_mem_cons.mpr ⟨(tk_4 _ (List.mem_of_getElem? (i := 215) rfl)), List.forall_mem_cons.mpr ⟨(tk_4 _ (List.mem_of_getElem? (i := 216) rfl)), List.forall_mem_cons.mpr ⟨(tk_4 _ (List.mem_of_getElem? (i := 218) rfl)), List.forall_mem_cons.mpr ⟨(pk_5 _ (List.mem_of_getElem? (i := 8) rfl)), List.forall_mem_cons.mpr ⟨(tk_2 _ (List.mem_of_getElem? (i := 210) rfl)), List.forall_mem_cons.mpr ⟨(tk_2 _ (List.mem_of_getElem? (i := 211) rfl)), List.forall_mem_cons.mpr ⟨(tk_2 _ (List.mem_of_getElem? (i := 212) rfl)), List.forall_mem_cons.mpr ⟨(tk_2 _ (List.mem_of_getElem? (i := 213) rfl)), List.forall_mem_cons.mpr ⟨(tk_4 _ (List.mem_of_getElem? (i := 187) rfl)), List.forall_mem_cons.mpr ⟨(tk_4 _ (List.mem_of_getElem? (i := 188) rfl)), fun _ h => absurd h List.not_mem_nil⟩⟩⟩⟩⟩⟩⟩⟩⟩⟩⟩⟩⟩⟩⟩⟩⟩⟩⟩⟩⟩⟩⟩⟩
set_option maxRecDepth 100000 in
theorem it_wsL_law_r19 : ∀ w ∈ wsL_law_r19, w ∈ lw_tbl := List.forall_mem_cons.mpr ⟨(tk_4 _ (List.mem_of_getElem? (i := 189) rfl)), List.forall_mem_cons.mpr ⟨(tk_4 _ (List.mem_of_getElem? (i := 190) rfl)), List.forall_mem_cons.mpr ⟨(tk_2 _ (List.mem_of_getElem? (i := 215) rfl)), List.forall_mem_cons.mpr ⟨(tk_2 _ (List.mem_of_getElem? (i := 216) rfl)), List.forall_mem_cons.mpr ⟨(tk_2 _ (List.mem_of_getElem? (i := 217) rfl)), List.forall_mem_cons.mpr ⟨(tk_2 _ (List.mem_of_getElem? (i := 218) rfl)), List.forall_mem_cons.mpr ⟨(tk_2 _ (List.mem_of_getElem? (i := 219) rfl)), List.forall_mem_cons.mpr ⟨(tk_2 _ (List.mem_of_getElem? (i := 222) rfl)), List.forall_mem_cons.mpr ⟨(pk_2 _ (List.mem_of_getElem? (i := 10) rfl)), List.forall_mem_cons.mpr ⟨(tk_2 _ (List.mem_of_getElem? (i := 223) rfl)), List.forall_mem_cons.mpr ⟨(tk_2 _ (List.mem_of_getElem? (i := 224) rfl)), List.forall_mem_cons.mpr ⟨(tk_2 _ (List.mem_of_getElem? (i := 226) rfl)), List.forall_mem_cons.mpr ⟨(pk_2 _ (List.mem_of_getElem? (i := 11) rfl)), List.forall_mem_cons.mpr ⟨(tk_2 _ (List.mem_of_getElem? (i := 227) rfl)), List.forall_mem_cons.mpr ⟨(tk_2 _ (List.mem_of_getElem? (i := 229) rfl)), List.forall_mem_cons.mpr ⟨(tk_2 _ (List.mem_of_getElem? (i := 230) rfl)), List.forall_mem_cons.mpr ⟨(tk_2 _ (List.mem_of_getElem? (i := 228) rfl)), List.forall_mem_cons.mpr ⟨(tk_2 _ (List.mem_of_getElem? (i := 231) rfl)), List.forall_mem_cons.mpr ⟨(tk_2 _ (List.mem_of_getElem? (i := 233) rfl)), List.forall_mem_cons.mpr ⟨(pk_2 _ (List.mem_of_getElem? (i := 12) rfl)), List.forall_mem_cons.mpr ⟨(tk_2 _ (List.mem_of_getElem? (i := 234) rfl)), List.forall_mem_cons.mpr ⟨(tk_2 _ (List.mem_of_getElem? (i := 235) rfl)), List.forall_mem_cons.mpr ⟨(tk_2 _ (List.mem_of_getElem? (i := 237) rfl)), List.forall_mem_cons.mpr ⟨(pk_2 _ (List.mem_of_getElem? (i := 13) rfl)), fun _ h => absurd h List.not_mem_nil⟩⟩⟩⟩⟩⟩⟩⟩⟩⟩⟩⟩⟩⟩⟩⟩⟩⟩⟩⟩⟩⟩⟩⟩
set_option maxRecDepth 100000 in
theorem it_wsL_law_r20 : ∀ w ∈ wsL_law_r20, w ∈ lw_tbl := List.forall_mem_cons.mpr ⟨(tk_2 _ (List.mem_of_getElem? (i := 238) rfl)), List.forall_mem_cons.mpr ⟨(tk_3 _ (List.mem_of_getElem? (i := 6) rfl)), List.forall_mem_cons.mpr ⟨(tk_3 _ (List.mem_of_getElem? (i := 0) rfl)), List.forall_mem_cons.mpr ⟨(tk_3 _ (List.mem_of_getElem? (i := 2) rfl)), List.forall_mem_cons.mpr ⟨(pk_2 _ (List.mem_of_getElem? (i := 14) rfl)), List.forall_mem_cons.mpr ⟨(tk_3 _ (List.mem_of_getElem? (i := 3) rfl)), List.forall_mem_cons.mpr ⟨(tk_3 _ (List.mem_of_getElem? (i := 9) rfl)), List.forall_mem_cons.mpr ⟨(pk_2 _ (List.mem_of_getElem? (i := 15) rfl)), List.forall_mem_cons.mpr ⟨(tk_3 _ (List.mem_of_getElem? (i := 10) rfl)), List.forall_mem_cons.mpr ⟨(tk_3 _ (List.mem_of_getElem? (i := 11) rfl)), List.forall_mem_cons.mpr ⟨(tk_3 _ (List.mem_of_getElem? (i := 13) rfl)), List.forall_mem_cons.mpr ⟨(pk_3 _ (List.mem_of_getElem? (i := 0) rfl)), List.forall_mem_cons.mpr ⟨(tk_3 _ (List.mem_of_getElem? (i := 14) rfl)), List.forall_mem_cons.mpr ⟨(tk_3 _ (List.mem_of_getElem? (i := 15) rfl)), List.forall_mem_cons.mpr ⟨(tk_3 _ (List.mem_of_getElem? (i := 16) rfl)), List.forall_mem_cons.mpr ⟨(tk_1 _ (List.mem_of_getElem? (i := 12) rfl)), List.forall_mem_cons.mpr ⟨(tk_3 _ (List.mem_of_getElem? (i := 17) rfl)), List.forall_mem_cons.mpr ⟨(tk_3 _ (List.mem_of_getElem? (i := 18) rfl)), List.forall_mem_cons.mpr ⟨(tk_3 _ (List.mem_of_getElem? (i := 19) rfl)), List.forall_mem_cons.mpr ⟨(tk_3 _ (List.mem_of_getElem? (i := 20) rfl)), List.forall_mem_cons.mpr ⟨(tk_5 _ (List.mem_of_getElem? (i := 3) rfl)), List.forall_mem_cons.mpr ⟨(tk_5 _ (List.mem_of_getElem? (i := 4) rfl)), List.forall_mem_cons.mpr ⟨(tk_5 _ (List.mem_of_getElem? (i := 5) rfl)), List.forall_mem_cons.mpr ⟨(tk_5 _ (List.mem_of_getElem? (i := 6) rfl)), fun _ h => absurd h List.not_mem_nil⟩⟩⟩⟩⟩⟩⟩⟩⟩⟩⟩⟩⟩⟩⟩⟩⟩⟩⟩⟩⟩⟩⟩⟩
set_option maxRecDepth 100000 in
theorem it_wsL_law_r21 : ∀ w ∈ wsL_law_r21, w ∈ lw_tbl := List.forall_mem_cons.mpr ⟨(tk_5 _ (List.mem_of_getElem? (i := 7) rfl)), List.forall_mem_cons.mpr ⟨(tk_5 _ (List.mem_of_getElem? (i := 8) rfl)), List.forall_mem_cons.mpr ⟨(tk_5 _ (List.mem_of_getElem? (i := 10) rfl)), List.forall_mem_cons.mpr ⟨(pk_5 _ (List.mem_of_getElem? (i := 14) rfl)), List.forall_mem_cons.mpr ⟨(tk_5 _ (List.mem_of_getElem? (i := 11) rfl)), List.forall_mem_cons.mpr ⟨(tk_5 _ (List.mem_of_getElem? (i := 12) rfl)), List.forall_mem_cons.mpr ⟨(tk_5 _ (List.mem_of_getElem? (i := 14) rfl)), List.forall_mem_cons.mpr ⟨(pk_5 _ (List.mem_of_getElem? (i := 15) rfl)), List.forall_mem_cons.mpr ⟨(tk_5 _ (List.mem_of_getElem? (i := 15) rfl)), List.forall_mem_cons.mpr ⟨(tk_5 _ (List.mem_of_getElem? (i := 16) rfl)), List.forall_mem_cons.mpr ⟨(tk_5 _ (List.mem_of_getElem? (i := 18) rfl)), List.forall_mem_cons.mpr ⟨(pk_6 _ (List.mem_of_getElem? (i := 0) rfl)), List.forall_mem_cons.mpr ⟨(tk_5 _ (List.mem_of_getElem? (i := 19) rfl)), List.forall_mem_cons.mpr ⟨(tk_5 _ (List.mem_of_getElem? (i := 20) rfl)), List.forall_mem_cons.mpr ⟨(tk_5 _ (List.mem_of_getElem? (i := 22) rfl)), List.forall_mem_cons.mpr ⟨(pk_6 _ (List.mem_of_getElem? (i := 1) rfl)), List.forall_mem_cons.mpr ⟨(tk_5 _ (List.mem_of_getElem? (i := 23) rfl)), List.forall_mem_cons.mpr ⟨(tk_5 _ (List.mem_of_getElem? (i := 24) rfl)), List.forall_mem_cons.mpr ⟨(tk_5 _ (List.mem_of_getElem? (i := 26) rfl)), List.forall_mem_cons.mpr ⟨(pk_6 _ (List.mem_of_getElem? (i := 2) rfl)), List.forall_mem_cons.mpr ⟨(tk_5 _ (List.mem_of_getElem? (i := 27) rfl)), List.forall_mem_cons.mpr ⟨(tk_5 _ (List.mem_of_getElem? (i := 28) rfl)), List.forall_mem_cons.mpr ⟨(tk_5 _ (List.mem_of_getElem? (i := 30) rfl)), List.forall_mem_cons.mpr ⟨(pk_6 _ (List.mem_of_getElem? (i := 3) rfl)), fun _ h => absurd h List.not_mem_nil⟩⟩⟩⟩⟩⟩⟩⟩⟩⟩⟩⟩⟩⟩⟩⟩⟩⟩⟩⟩⟩⟩⟩⟩
set_option maxRecDepth 100000 in
theorem it_wsL_law_r22 : ∀ w ∈ wsL_law_r22, w ∈ lw_tbl := List.forall_mem_cons.mpr ⟨(tk_5 _ (List.mem_of_getElem? (i := 31) rfl)), List.forall_mem_cons.mpr ⟨(tk_5 _ (List.mem_of_getElem? (i := 32) rfl)), List.forall_mem_cons.mpr ⟨(tk_5 _ (List.mem_of_getElem? (i := 34) rfl)), List.forall_mem_cons.mpr ⟨(pk_6 _ (List.mem_of_getElem? (i := 4) rfl)), List.forall_mem_cons.mpr ⟨(tk_5 _ (List.mem_of_getElem? (i := 35) rfl)), List.forall_mem_cons.mpr ⟨(tk_5 _ (List.mem_of_getElem? (i := 36) rfl)), List.forall_mem_cons.mpr ⟨(tk_5 _ (List.mem_of_getElem? (i := 37) rfl)), List.forall_mem_cons.mpr ⟨(tk_5 _ (List.mem_of_getElem? (i := 38) rfl)), List.forall_mem_cons.mpr ⟨(tk_3 _ (List.mem_of_getElem? (i := 21) rfl)), List.forall_mem_cons.mpr ⟨(tk_3 _ (List.mem_of_getElem? (i := 22) rfl)), List.forall_mem_cons.mpr ⟨(tk_3 _ (List.mem_of_getElem? (i := 23) rfl)), List.forall_mem_cons.mpr ⟨(tk_3 _ (List.mem_of_getElem? (i := 24) rfl)), List.forall_mem_cons.mpr ⟨(tk_3 _ (List.mem_of_getElem? (i := 27) rfl)), List.forall_mem_cons.mpr ⟨(pk_3 _ (List.mem_of_getElem? (i := 1) rfl)), List.forall_mem_cons.mpr ⟨(tk_3 _ (List.mem_of_getElem? (i := 28) rfl)), List.forall_mem_cons.mpr ⟨(tk_3 _ (List.mem_of_getElem? (i := 29) rfl)), List.forall_mem_cons.mpr ⟨(tk_5 _ (List.mem_of_getElem? (i := 39) rfl)), List.forall_mem_cons.mpr ⟨(tk_5 _ (List.mem_of_getElem? (i := 40) rfl)), List.forall_mem_cons.mpr ⟨(tk_5 _ (List.mem_of_getElem? (i := 41) rfl)), List.forall_mem_cons.mpr ⟨(tk_5 _ (List.mem_of_getElem? (i := 42) rfl)), List.forall_mem_cons.mpr ⟨(tk_5 _ (List.mem_of_getElem? (i := 43) rfl)), List.forall_mem_cons.mpr ⟨(tk_5 _ (List.mem_of_getElem? (i := 45) rfl)), List.forall_mem_cons.mpr ⟨(pk_6 _ (List.mem_of_getElem? (i := 5) rfl)), List.forall_mem_cons.mpr ⟨(tk_5 _ (List.mem_of_getElem? (i := 46) rfl)), fun _ h => absurd h List.not_mem_nil⟩⟩⟩⟩⟩⟩⟩⟩⟩⟩⟩⟩⟩⟩⟩⟩⟩⟩⟩⟩⟩⟩⟩⟩
set_option maxRecDepth 100000 in
theorem it_wsL_law_r23 : ∀ w ∈ wsL_law_r23, w ∈ lw_tbl := List.forall_mem_cons.mpr ⟨(tk_5 _ (List.mem_of_getElem? (i := 47) rfl)), List.forall_mem_cons.mpr ⟨(tk_3 _ (List.mem_of_getElem? (i := 30) rfl)), List.forall_mem_cons.mpr ⟨(tk_3 _ (List.mem_of_getElem? (i := 31) rfl)), List.forall_mem_cons.mpr ⟨(tk_3 _ (List.mem_of_getElem? (i := 32) rfl)), List.forall_mem_cons.mpr ⟨(tk_3 _ (List.mem_of_getElem? (i := 33) rfl)), List.forall_mem_cons.mpr ⟨(tk_3 _ (List.mem_of_getElem? (i := 34) rfl)), List.forall_mem_cons.mpr ⟨(tk_3 _ (List.mem_of_getElem? (i := 36) rfl)), List.forall_mem_cons.mpr ⟨(pk_3 _ (List.mem_of_getElem? (i := 2) rfl)), List.forall_mem_cons.mpr ⟨(tk_3 _ (List.mem_of_getElem? (i := 37) rfl)), List.forall_mem_cons.mpr ⟨(tk_3 _ (List.mem_of_getElem? (i := 40) rfl)), List.forall_mem_cons.mpr ⟨(pk_3 _ (List.mem_of_getElem? (i := 3) rfl)), List.forall_mem_cons.mpr ⟨(tk_3 _ (List.mem_of_getElem? (i := 41) rfl)), List.forall_mem_cons.mpr ⟨(tk_3 _ (List.mem_of_getElem? (i := 44) rfl)), List.forall_mem_cons.mpr ⟨(pk_3 _ (List.mem_of_getElem? (i := 4) rfl)), List.forall_mem_cons.mpr ⟨(tk_3 _ (List.mem_of_getElem? (i := 45) rfl)), List.forall_mem_cons.mpr ⟨(tk_1 _ (List.mem_of_getElem? (i := 78) rfl)), List.forall_mem_cons.mpr ⟨(tk_3 _ (List.mem_of_getElem? (i := 46) rfl)), List.forall_mem_cons.mpr ⟨(tk_3 _ (List.mem_of_getElem? (i := 48) rfl)), List.forall_mem_cons.mpr ⟨(pk_3 _ (List.mem_of_getElem? (i := 5) rfl)), List.forall_mem_cons.mpr ⟨(tk_3 _ (List.mem_of_getElem? (i := 49) rfl)), List.forall_mem_cons.mpr ⟨(tk_5 _ (List.mem_of_getElem? (i := 48) rfl)), List.forall_mem_cons.mpr ⟨(tk_5 _ (List.mem_of_getElem? (i := 49) rfl)), List.forall_mem_cons.mpr ⟨(tk_5 _ (List.mem_of_getElem? (i := 50) rfl)), List.forall_mem_cons.mpr ⟨(tk_5 _ (List.mem_of_getElem? (i := 51) rfl)), fun _ h => absurd h List.not_mem_nil⟩⟩⟩⟩⟩⟩⟩⟩⟩⟩⟩⟩⟩⟩⟩⟩⟩⟩⟩⟩⟩⟩⟩⟩
set_option maxRecDepth 100000 in
theorem it_wsL_law_r24 : ∀ w ∈ wsL_law_r24, w ∈ lw_tbl := List.forall_mem_cons.mpr ⟨(tk_5 _ (List.mem_of_getElem? (i := 52) rfl)), List.forall_mem_cons.mpr ⟨(tk_5 _ (List.mem_of_getElem? (i := 54) rfl)), List.forall_mem_cons.mpr ⟨(pk_6 _ (List.mem_of_getElem? (i := 6) rfl)), List.forall_mem_cons.mpr ⟨(tk_5 _ (List.mem_of_getElem? (i := 55) rfl)), List.forall_mem_cons.mpr ⟨(tk_3 _ (List.mem_of_getElem? (i := 50) rfl)), List.forall_mem_cons.mpr ⟨(tk_3 _ (List.mem_of_getElem? (i := 51) rfl)), List.forall_mem_cons.mpr ⟨(tk_3 _ (List.mem_of_getElem? (i := 52) rfl)), List.forall_mem_cons.mpr ⟨(tk_3 _ (List.mem_of_getElem? (i := 53) rfl)), List.forall_mem_cons.mpr ⟨(tk_3 _ (List.mem_of_getElem? (i := 54) rfl)), List.forall_mem_cons.mpr ⟨(tk_5 _ (List.mem_of_getElem? (i := 56) rfl)), List.forall_mem_cons.mpr ⟨(tk_5 _ (List.mem_of_getElem? (i := 57) rfl)), List.forall_mem_cons.mpr ⟨(tk_5 _ (List.mem_of_getElem? (i := 58) rfl)), List.forall_mem_cons.mpr ⟨(tk_5 _ (List.mem_of_getElem? (i := 59) rfl)), List.forall_mem_cons.mpr ⟨(tk_5 _ (List.mem_of_getElem? (i := 60) rfl)), List.forall_mem_cons.mpr ⟨(tk_3 _ (List.mem_of_getElem? (i := 55) rfl)), List.forall_mem_cons.mpr ⟨(tk_3 _ (List.mem_of_getElem? (i := 56) rfl)), List.forall_mem_cons.mpr ⟨(tk_3 _ (List.mem_of_getElem? (i := 57) rfl)), List.forall_mem_cons.mpr ⟨(tk_3 _ (List.mem_of_getElem? (i := 58) rfl)), List.forall_mem_cons.mpr ⟨(tk_5 _ (List.mem_of_getElem? (i := 61) rfl)), List.forall_mem_cons.mpr ⟨(tk_5 _ (List.mem_of_getElem? (i := 62) rfl)), List.forall_mem_cons.mpr ⟨(tk_5 _ (List.mem_of_getElem? (i := 63) rfl)), List.forall_mem_cons.mpr ⟨(tk_5 _ (List.mem_of_getElem? (i := 64) rfl)), List.forall_mem_cons.mpr ⟨(tk_5 _ (List.mem_of_getElem? (i := 65) rfl)), List.forall_mem_cons.mpr ⟨(tk_5 _ (List.mem_of_getElem? (i := 67) rfl)), fun _ h => absurd h List.not_mem_nil⟩⟩⟩⟩⟩⟩⟩⟩⟩⟩⟩⟩⟩⟩⟩⟩⟩⟩⟩⟩⟩⟩⟩⟩
set_option maxRecDepth 100000 in
theorem it_wsL_law_r25 : ∀ w ∈ wsL_law_r25, w ∈ lw_tbl := List.forall_mem_cons.mpr ⟨(pk_6 _ (List.mem_of_getElem? (i := 7) rfl)), List.forall_mem_cons.mpr ⟨(tk_5 _ (List.mem_of_getElem? (i := 68) rfl)), List.forall_mem_cons.mpr ⟨(tk_3 _ (List.mem_of_getElem? (i := 60) rfl)), List.forall_mem_cons.mpr ⟨(tk_3 _ (List.mem_of_getElem? (i := 61) rfl)), List.forall_mem_cons.mpr ⟨(tk_3 _ (List.mem_of_getElem? (i := 62) rfl)), List.forall_mem_cons.mpr ⟨(tk_3 _ (List.mem_of_getElem? (i := 63) rfl)), List.forall_mem_cons.mpr ⟨(tk_5 _ (List.mem_of_getElem? (i := 69) rfl)), List.forall_mem_cons.mpr ⟨(tk_5 _ (List.mem_of_getElem? (i := 70) rfl)), List.forall_mem_cons.mpr ⟨(tk_5 _ (List.mem_of_getElem? (i := 71) rfl)), List.forall_mem_cons.mpr ⟨(tk_5 _ (List.mem_of_getElem? (i := 72) rfl)), List.forall_mem_cons.mpr ⟨(tk_5 _ (List.mem_of_getElem? (i := 73) rfl)), List.forall_mem_cons.mpr ⟨(tk_5 _ (List.mem_of_getElem? (i := 75) rfl)), List.forall_mem_cons.mpr ⟨(pk_6 _ (List.mem_of_getElem? (i := 8) rfl)), List.forall_mem_cons.mpr ⟨(tk_5 _ (List.mem_of_getElem? (i := 76) rfl)), List.forall_mem_cons.mpr ⟨(tk_3 _ (List.mem_of_getElem? (i := 64) rfl)), List.forall_mem_cons.mpr ⟨(tk_3 _ (List.mem_of_getElem? (i := 65) rfl)), List.forall_mem_cons.mpr ⟨(tk_3 _ (List.mem_of_getElem? (i := 66) rfl)), List.forall_mem_cons.mpr ⟨(tk_3 _ (List.mem_of_getElem? (i := 67) rfl)), List.forall_mem_cons.mpr ⟨(tk_5 _ (List.mem_of_getElem? (i := 77) rfl)), List.forall_mem_cons.mpr ⟨(tk_5 _ (List.mem_of_getElem? (i := 78) rfl)), List.forall_mem_cons.mpr ⟨(tk_5 _ (List.mem_of_getElem? (i := 79) rfl)), List.forall_mem_cons.mpr ⟨(tk_5 _ (List.mem_of_getElem? (i := 80) rfl)), List.forall_mem_cons.mpr ⟨(tk_3 _ (List.mem_of_getElem? (i := 68) rfl)), List.forall_mem_cons.mpr ⟨(tk_3 _ (List.mem_of_getElem? (i := 69) rfl)), fun _ h => absurd h List.not_mem_nil⟩⟩⟩⟩⟩⟩⟩⟩⟩⟩⟩⟩⟩⟩⟩⟩⟩⟩⟩⟩⟩⟩⟩⟩
set_option maxRecDepth 100000 in
theorem it_wsL_law_r26 : ∀ w ∈ wsL_law_r26, w ∈ lw_tbl := List.forall_mem_cons.mpr ⟨(tk_3 _ (List.mem_of_getElem? (i := 70) rfl)), List.forall_mem_cons.mpr ⟨(tk_3 _ (List.mem_of_getElem? (i := 71) rfl)), List.forall_mem_cons.mpr ⟨(tk_3 _ (List.mem_of_getElem? (i := 74) rfl)), List.forall_mem_cons.mpr ⟨(pk_3 _ (List.mem_of_getElem? (i := 6) rfl)), List.forall_mem_cons.mpr ⟨(tk_3 _ (List.mem_of_getElem? (i := 75) rfl)), List.forall_mem_cons.mpr ⟨(tk_3 _ (List.mem_of_getElem? (i := 76) rfl)), List.forall_mem_cons.mpr ⟨(tk_3 _ (List.mem_of_getElem? (i := 79) rfl)), List.forall_mem_cons.mpr ⟨(pk_3 _ (List.mem_of_getElem? (i := 7) rfl)), List.forall_mem_cons.mpr ⟨(tk_3 _ (List.mem_of_getElem? (i := 80) rfl)), List.forall_mem_cons.mpr ⟨(tk_3 _ (List.mem_of_getElem? (i := 81) rfl)), List.forall_mem_cons.mpr ⟨(tk_3 _ (List.mem_of_getElem? (i := 83) rfl)), List.forall_mem_cons.mpr ⟨(pk_3 _ (List.mem_of_getElem? (i := 8) rfl)), List.forall_mem_cons.mpr ⟨(tk_3 _ (List.mem_of_getElem? (i := 84) rfl)), List.forall_mem_cons.mpr ⟨(tk_5 _ (List.mem_of_getElem? (i := 81) rfl)), List.forall_mem_cons.mpr ⟨(tk_5 _ (List.mem_of_getElem? (i := 82) rfl)), List.forall_mem_cons.mpr ⟨(tk_5 _ (List.mem_of_getElem? (i := 83) rfl)), List.forall_mem_cons.mpr ⟨(tk_5 _ (List.mem_of_getElem? (i := 84) rfl)), List.forall_mem_cons.mpr ⟨(tk_5 _ (List.mem_of_getElem? (i := 85) rfl)), List.forall_mem_cons.mpr ⟨(tk_5 _ (List.mem_of_getElem? (i := 87) rfl)), List.forall_mem_cons.mpr ⟨(pk_6 _ (List.mem_of_getElem? (i := 9) rfl)), List.forall_mem_cons.mpr ⟨(tk_5 _ (List.mem_of_getElem? (i := 88) rfl)), List.forall_mem_cons.mpr ⟨(tk_3 _ (List.mem_of_getElem? (i := 85) rfl)), List.forall_mem_cons.mpr ⟨(tk_3 _ (List.mem_of_getElem? (i := 86) rfl)), List.forall_mem_cons.mpr ⟨(tk_3 _ (List.mem_of_getElem? (i := 87) rfl)), fun _ h => absurd h List.not_mem_nil⟩⟩⟩⟩⟩⟩⟩⟩⟩⟩⟩⟩⟩⟩⟩⟩⟩⟩⟩⟩⟩⟩⟩⟩
set_option maxRecDepth 100000 in
theorem it_wsL_law_r27 : ∀ w ∈ wsL_law_r27, w ∈ lw_tbl := List.forall_mem_cons.mpr ⟨(tk_3 _ (List.mem_of_getElem? (i := 88) rfl)), List.forall_mem_cons.mpr ⟨(tk_3 _ (List.mem_of_getElem? (i := 89) rfl)), List.forall_mem_cons.mpr ⟨(tk_3 _ (List.mem_of_getElem? (i := 91) rfl)), List.forall_mem_cons.mpr ⟨(pk_3 _ (List.mem_of_getElem? (i := 9) rfl)), List.forall_mem_cons.mpr ⟨(tk_3 _ (List.mem_of_getElem? (i := 92) rfl)), List.forall_mem_cons.mpr ⟨(tk_5 _ (List.mem_of_getElem? (i := 89) rfl)), List.forall_mem_cons.mpr ⟨(tk_5 _ (List.mem_of_getElem? (i := 90) rfl)), List.forall_mem_cons.mpr ⟨(tk_5 _ (List.mem_of_getElem? (i := 91) rfl)), List.forall_mem_cons.mpr ⟨(tk_5 _ (List.mem_of_getElem? (i := 92) rfl)), List.forall_mem_cons.mpr ⟨(tk_5 _ (List.mem_of_getElem? (i := 93) rfl)), List.forall_mem_cons.mpr ⟨(tk_3 _ (List.mem_of_getElem? (i := 93) rfl)), List.forall_mem_cons.mpr ⟨(tk_3 _ (List.mem_of_getElem? (i := 94) rfl)), List.forall_mem_cons.mpr ⟨(tk_3 _ (List.mem_of_getElem? (i := 95) rfl)), List.forall_mem_cons.mpr ⟨(tk_3 _ (List.mem_of_getElem? (i := 96) rfl)), List.forall_mem_cons.mpr ⟨(tk_3 _ (List.mem_of_getElem? (i := 97) rfl)), List.forall_mem_cons.mpr ⟨(tk_3 _ (List.mem_of_getElem? (i := 98) rfl)), List.forall_mem_cons.mpr ⟨(tk_3 _ (List.mem_of_getElem? (i := 99) rfl)), List.forall_mem_cons.mpr ⟨(tk_3 _ (List.mem_of_getElem? (i := 102) rfl)), List.forall_mem_cons.mpr ⟨(pk_3 _ (List.mem_of_getElem? (i := 10) rfl)), List.forall_mem_cons.mpr ⟨(tk_3 _ (List.mem_of_getElem? (i := 103) rfl)), List.forall_mem_cons.mpr ⟨(tk_1 _ (List.mem_of_getElem? (i := 235) rfl)), List.forall_mem_cons.mpr ⟨(tk_3 _ (List.mem_of_getElem? (i := 106) rfl)), List.forall_mem_cons.mpr ⟨(pk_3 _ (List.mem_of_getElem? (i := 11) rfl)), List.forall_mem_cons.mpr ⟨(tk_3 _ (List.mem_of_getElem? (i := 107) rfl)), fun _ h => absurd h List.not_mem_nil⟩⟩⟩⟩⟩⟩⟩⟩⟩⟩⟩⟩⟩⟩⟩⟩⟩⟩⟩⟩⟩⟩⟩⟩
set_option maxRecDepth 100000 in
theorem it_wsL_law_r28 : ∀ w ∈ wsL_law_r28, w ∈ lw_tbl := List.forall_mem_cons.mpr ⟨(tk_5 _ (List.mem_of_getElem? (i := 94) rfl)), List.forall_mem_cons.mpr ⟨(tk_5 _ (List.mem_of_getElem? (i := 95) rfl)), List.forall_mem_cons.mpr ⟨(tk_5 _ (List.mem_of_getElem? (i := 96) rfl)), List.forall_mem_cons.mpr ⟨(tk_5 _ (List.mem_of_getElem? (i := 97) rfl)), List.forall_mem_cons.mpr ⟨(tk_5 _ (List.mem_of_getElem? (i := 98) rfl)), List.forall_mem_cons.mpr ⟨(tk_5 _ (List.mem_of_getElem? (i := 99) rfl)), List.forall_mem_cons.mpr ⟨(tk_5 _ (List.mem_of_getElem? (i := 100) rfl)), List.forall_mem_cons.mpr ⟨(tk_5 _ (List.mem_of_getElem? (i := 101) rfl)), List.forall_mem_cons.mpr ⟨(tk_5 _ (List.mem_of_getElem? (i := 103) rfl)), List.forall_mem_cons.mpr ⟨(pk_6 _ (List.mem_of_getElem? (i := 10) rfl)), List.forall_mem_cons.mpr ⟨(tk_5 _ (List.mem_of_getElem? (i := 104) rfl)), List.forall_mem_cons.mpr ⟨(tk_3 _ (List.mem_of_getElem? (i := 108) rfl)), List.forall_mem_cons.mpr ⟨(tk_3 _ (List.mem_of_getElem? (i := 109) rfl)), List.forall_mem_cons.mpr ⟨(tk_3 _ (List.mem_of_getElem? (i := 110) rfl)), List.forall_mem_cons.mpr ⟨(tk_3 _ (List.mem_of_getElem? (i := 111) rfl)), List.forall_mem_cons.mpr ⟨(tk_3 _ (List.mem_of_getElem? (i := 112) rfl)), List.forall_mem_cons.mpr ⟨(tk_3 _ (List.mem_of_getElem? (i := 113) rfl)), List.forall_mem_cons.mpr ⟨(tk_3 _ (List.mem_of_getElem? (i := 114) rfl)), List.forall_mem_cons.mpr ⟨(tk_5 _ (List.mem_of_getElem? (i := 105) rfl)), List.forall_mem_cons.mpr ⟨(tk_5 _ (List.mem_of_getElem? (i := 106) rfl)), List.forall_mem_cons.mpr ⟨(tk_5 _ (List.mem_of_getElem? (i := 107) rfl)), List.forall_mem_cons.mpr ⟨(tk_5 _ (List.mem_of_getElem? (i := 108) rfl)), List.forall_mem_cons.mpr ⟨(tk_3 _ (List.mem_of_getElem? (i := 115) rfl)), List.forall_mem_cons.mpr ⟨(tk_3 _ (List.mem_of_getElem? (i := 116) rfl)), fun _ h => absurd h List.not_mem_nil⟩⟩⟩⟩⟩⟩⟩⟩⟩⟩⟩⟩⟩⟩⟩⟩⟩⟩⟩⟩⟩⟩⟩⟩
set_option maxRecDepth 100000 in
theorem it_wsL_law_r29 : ∀ w ∈ wsL_law_r29, w ∈ lw_tbl := List.forall_mem_cons.mpr ⟨(tk_3 _ (List.mem_of_getElem? (i := 117) rfl)), List.forall_mem_cons.mpr ⟨(tk_3 _ (List.mem_of_getElem? (i := 118) rfl)), List.forall_mem_cons.mpr ⟨(tk_5 _ (List.mem_of_getElem? (i := 109) rfl)), List.forall_mem_cons.mpr ⟨(tk_5 _ (List.mem_of_getElem? (i := 110) rfl)), List.forall_mem_cons.mpr ⟨(tk_5 _ (List.mem_of_getElem? (i := 111) rfl)), List.forall_mem_cons.mpr ⟨(tk_5 _ (List.mem_of_getElem? (i := 112) rfl)), List.forall_mem_cons.mpr ⟨(tk_3 _ (List.mem_of_getElem? (i := 119) rfl)), List.forall_mem_cons.mpr ⟨(tk_3 _ (List.mem_of_getElem? (i := 120) rfl)), List.forall_mem_cons.mpr ⟨(tk_3 _ (List.mem_of_getElem? (i := 121) rfl)), List.forall_mem_cons.mpr ⟨(tk_3 _ (List.mem_of_getElem? (i := 122) rfl)), List.forall_mem_cons.mpr ⟨(tk_5 _ (List.mem_of_getElem? (i := 113) rfl)), List.forall_mem_cons.mpr ⟨(tk_5 _ (List.mem_of_getElem? (i := 114) rfl)), List.forall_mem_cons.mpr ⟨(tk_5 _ (List.mem_of_getElem? (i := 115) rfl)), List.forall_mem_cons.mpr ⟨(tk_5 _ (List.mem_of_getElem? (i := 116) rfl)), List.forall_mem_cons.mpr ⟨(tk_3 _ (List.mem_of_getElem? (i := 124) rfl)), List.forall_mem_cons.mpr ⟨(tk_3 _ (List.mem_of_getElem? (i := 125) rfl)), List.forall_mem_cons.mpr ⟨(tk_3 _ (List.mem_of_getElem? (i := 126) rfl)), List.forall_mem_cons.mpr ⟨(tk_3 _ (List.mem_of_getElem? (i := 127) rfl)), List.forall_mem_cons.mpr ⟨(tk_3 _ (List.mem_of_getElem? (i := 130) rfl)), List.forall_mem_cons.mpr ⟨(pk_3 _ (List.mem_of_getElem? (i := 12) rfl)), List.forall_mem_cons.mpr ⟨(tk_3 _ (List.mem_of_getElem? (i := 131) rfl)), List.forall_mem_cons.mpr ⟨(tk_5 _ (List.mem_of_getElem? (i := 117) rfl)), List.forall_mem_cons.mpr ⟨(tk_5 _ (List.mem_of_getElem? (i := 118) rfl)), List.forall_mem_cons.mpr ⟨(tk_5 _ (List.mem_of_getElem? (i := 119) rfl)), fun _ h => absurd h List.not_mem_nil⟩⟩⟩⟩⟩⟩⟩⟩⟩⟩⟩⟩⟩⟩⟩⟩⟩⟩⟩⟩⟩⟩⟩⟩
set_option maxRecDepth 100000 in
theorem it_wsL_law_r30 : ∀ w ∈ wsL_law_r30, w ∈ lw_tbl := List.forall_mem_cons.mpr ⟨(tk_5 _ (List.mem_of_getElem? (i := 120) rfl)), List.forall_mem_cons.mpr ⟨(tk_3 _ (List.mem_of_getElem? (i := 132) rfl)), List.forall_mem_cons.mpr ⟨(tk_3 _ (List.mem_of_getElem? (i := 133) rfl)), List.forall_mem_cons.mpr ⟨(tk_3 _ (List.mem_of_getElem? (i := 134) rfl)), List.forall_mem_cons.mpr ⟨(tk_3 _ (List.mem_of_getElem? (i := 135) rfl)), List.forall_mem_cons.mpr ⟨(tk_5 _ (List.mem_of_getElem? (i := 121) rfl)), List.forall_mem_cons.mpr ⟨(tk_5 _ (List.mem_of_getElem? (i := 122) rfl)), List.forall_mem_cons.mpr ⟨(tk_5 _ (List.mem_of_getElem? (i := 123) rfl)), List.forall_mem_cons.mpr ⟨(tk_5 _ (List.mem_of_getElem? (i := 124) rfl)), List.forall_mem_cons.mpr ⟨(tk_3 _ (List.mem_of_getElem? (i := 136) rfl)), List.forall_mem_cons.mpr ⟨(tk_3 _ (List.mem_of_getElem? (i := 137) rfl)), List.forall_mem_cons.mpr ⟨(tk_3 _ (List.mem_of_getElem? (i := 138) rfl)), List.forall_mem_cons.mpr ⟨(tk_3 _ (List.mem_of_getElem? (i := 139) rfl)), List.forall_mem_cons.mpr ⟨(tk_3 _ (List.mem_of_getElem? (i := 142) rfl)), List.forall_mem_cons.mpr ⟨(pk_3 _ (List.mem_of_getElem? (i := 13) rfl)), List.forall_mem_cons.mpr ⟨(tk_3 _ (List.mem_of_getElem? (i := 143) rfl)), List.forall_mem_cons.mpr ⟨(tk_5 _ (List.mem_of_getElem? (i := 125) rfl)), List.forall_mem_cons.mpr ⟨(tk_5 _ (List.mem_of_getElem? (i := 126) rfl)), List.forall_mem_cons.mpr ⟨(tk_5 _ (List.mem_of_getElem? (i := 127) rfl)), List.forall_mem_cons.mpr ⟨(tk_5 _ (List.mem_of_getElem? (i := 128) rfl)), List.forall_mem_cons.mpr ⟨(tk_3 _ (List.mem_of_getElem? (i := 144) rfl)), List.forall_mem_cons.mpr ⟨(tk_3 _ (List.mem_of_getElem? (i := 145) rfl)), List.forall_mem_cons.mpr ⟨(tk_3 _ (List.mem_of_getElem? (i := 146) rfl)), List.forall_mem_cons.mpr ⟨(tk_3 _ (List.mem_of_getElem? (i := 147) rfl)), fun _ h => absurd h List.not_mem_nil⟩⟩⟩⟩⟩⟩⟩⟩⟩⟩⟩⟩⟩⟩⟩⟩⟩⟩⟩⟩⟩⟩⟩⟩
set_option maxRecDepth 100000 in
theorem it_wsL_law_r31 : ∀ w ∈ wsL_law_r31, w ∈ lw_tbl := List.forall_mem_cons.mpr ⟨(tk_3 _ (List.mem_of_getElem? (i := 148) rfl)), List.forall_mem_cons.mpr ⟨(tk_3 _ (List.mem_of_getElem? (i := 149) rfl)), List.forall_mem_cons.mpr ⟨(tk_3 _ (List.mem_of_getElem? (i := 150) rfl)), List.forall_mem_cons.mpr ⟨(tk_5 _ (List.mem_of_getElem? (i := 129) rfl)), List.forall_mem_cons.mpr ⟨(tk_5 _ (List.mem_of_getElem? (i := 130) rfl)), List.forall_mem_cons.mpr ⟨(tk_5 _ (List.mem_of_getElem? (i := 131) rfl)), List.forall_mem_cons.mpr ⟨(tk_5 _ (List.mem_of_getElem? (i := 132) rfl)), List.forall_mem_cons.mpr ⟨(tk_5 _ (List.mem_of_getElem? (i := 133) rfl)), List.forall_mem_cons.mpr ⟨(tk_5 _ (List.mem_of_getElem? (i := 134) rfl)), List.forall_mem_cons.mpr ⟨(tk_5 _ (List.mem_of_getElem? (i := 135) rfl)), List.forall_mem_cons.mpr ⟨(tk_3 _ (List.mem_of_getElem? (i := 151) rfl)), List.forall_mem_cons.mpr ⟨(tk_3 _ (List.mem_of_getElem? (i := 152) rfl)), List.forall_mem_cons.mpr ⟨(tk_3 _ (List.mem_of_getElem? (i := 153) rfl)), List.forall_mem_cons.mpr ⟨(tk_3 _ (List.mem_of_getElem? (i := 154) rfl)), List.forall_mem_cons.mpr ⟨(tk_5 _ (List.mem_of_getElem? (i := 136) rfl)), List.forall_mem_cons.mpr ⟨(tk_5 _ (List.mem_of_getElem? (i := 137) rfl)), List.forall_mem_cons.mpr ⟨(tk_5 _ (List.mem_of_getElem? (i := 138) rfl)), List.forall_mem_cons.mpr ⟨(tk_5 _ (List.mem_of_getElem? (i := 139) rfl)), List.forall_mem_cons.mpr ⟨(tk_3 _ (List.mem_of_getElem? (i := 155) rfl)), List.forall_mem_cons.mpr ⟨(tk_3 _ (List.mem_of_getElem? (i := 156) rfl)), List.forall_mem_cons.mpr ⟨(tk_3 _ (List.mem_of_getElem? (i := 157) rfl)), List.forall_mem_cons.mpr ⟨(tk_3 _ (List.mem_of_getElem? (i := 158) rfl)), List.forall_mem_cons.mpr ⟨(tk_3 _ (List.mem_of_getElem? (i := 161) rfl)), List.forall_mem_cons.mpr ⟨(pk_3 _ (List.mem_of_getElem? (i := 14) rfl)), fun _ h => absurd h List.not_mem_nil⟩⟩⟩⟩⟩⟩⟩⟩⟩⟩⟩⟩⟩⟩⟩⟩⟩⟩⟩⟩⟩⟩⟩⟩
set_option maxRecDepth 100000 in
theorem it_wsL_law_r32 : ∀ w ∈ wsL_law_r32, w ∈ lw_tbl := List.forall_mem_cons.mpr ⟨(tk_3 _ (List.mem_of_getElem? (i := 162) rfl)), List.forall_mem_cons.mpr ⟨(tk_1 _ (List.mem_of_getElem? (i := 209) rfl)), List.forall_mem_cons.mpr ⟨(tk_1 _ (List.mem_of_getElem? (i := 211) rfl)), List.forall_mem_cons.mpr ⟨(tk_1 _ (List.mem_of_getElem? (i := 212) rfl)), List.forall_mem_cons.mpr ⟨(tk_1 _ (List.mem_of_getElem? (i := 213) rfl)), List.forall_mem_cons.mpr ⟨(tk_3 _ (List.mem_of_getElem? (i := 165) rfl)), List.forall_mem_cons.mpr ⟨(pk_3 _ (List.mem_of_getElem? (i := 15) rfl)), List.forall_mem_cons.mpr ⟨(tk_3 _ (List.mem_of_getElem? (i := 166) rfl)), List.forall_mem_cons.mpr ⟨(tk_3 _ (List.mem_of_getElem? (i := 167) rfl)), List.forall_mem_cons.mpr ⟨(tk_3 _ (List.mem_of_getElem? (i := 169) rfl)), List.forall_mem_cons.mpr ⟨(pk_4 _ (List.mem_of_getElem? (i := 0) rfl)), List.forall_mem_cons.mpr ⟨(tk_3 _ (List.mem_of_getElem? (i := 170) rfl)), List.forall_mem_cons.mpr ⟨(tk_3 _ (List.mem_of_getElem? (i := 171) rfl)), List.forall_mem_cons.mpr ⟨(tk_3 _ (List.mem_of_getElem? (i := 173) rfl)), List.forall_mem_cons.mpr ⟨(pk_4 _ (List.mem_of_getElem? (i := 1) rfl)), List.forall_mem_cons.mpr ⟨(tk_3 _ (List.mem_of_getElem? (i := 174) rfl)), List.forall_mem_cons.mpr ⟨(tk_3 _ (List.mem_of_getElem? (i := 175) rfl)), List.forall_mem_cons.mpr ⟨(tk_3 _ (List.mem_of_getElem? (i := 177) rfl)), List.forall_mem_cons.mpr ⟨(pk_4 _ (List.mem_of_getElem? (i := 2) rfl)), List.forall_mem_cons.mpr ⟨(tk_3 _ (List.mem_of_getElem? (i := 178) rfl)), List.forall_mem_cons.mpr ⟨(tk_3 _ (List.mem_of_getElem? (i := 179) rfl)), List.forall_mem_cons.mpr ⟨(tk_3 _ (List.mem_of_getElem? (i := 181) rfl)), List.forall_mem_cons.mpr ⟨(pk_4 _ (List.mem_of_getElem? (i := 3) rfl)), List.forall_mem_cons.mpr ⟨(tk_3 _ (List.mem_of_getElem? (i := 182) rfl)), fun _ h => absurd h List.not_mem_nil⟩⟩⟩⟩⟩⟩⟩⟩⟩⟩⟩⟩⟩⟩⟩⟩⟩⟩⟩⟩⟩⟩⟩⟩
set_option maxRecDepth 100000 in
theorem it_wsL_law_r33 : ∀ w ∈ wsL_law_r33, w ∈ lw_tbl := List.forall_mem_cons.mpr ⟨(tk_3 _ (List.mem_of_getElem? (i := 183) rfl)), List.forall_mem_cons.mpr ⟨(tk_3 _ (List.mem_of_getElem? (i := 185) rfl)), List.forall_mem_cons.mpr ⟨(pk_4 _ (List.mem_of_getElem? (i := 4) rfl)), List.forall_mem_cons.mpr ⟨(tk_3 _ (List.mem_of_getElem? (i := 186) rfl)), List.forall_mem_cons.mpr ⟨(tk_5 _ (List.mem_of_getElem? (i := 140) rfl)), List.forall_mem_cons.mpr ⟨(tk_5 _ (List.mem_of_getElem? (i := 141) rfl)), List.forall_mem_cons.mpr ⟨(tk_5 _ (List.mem_of_getElem? (i := 142) rfl)), List.forall_mem_cons.mpr ⟨(tk_5 _ (List.mem_of_getElem? (i := 143) rfl)), List.forall_mem_cons.mpr ⟨(tk_4 _ (List.mem_of_getElem? (i := 46) rfl)), List.forall_mem_cons.mpr ⟨(tk_4 _ (List.mem_of_getElem? (i := 47) rfl)), List.forall_mem_cons.mpr ⟨(tk_4 _ (List.mem_of_getElem? (i := 48) rfl)), List.forall_mem_cons.mpr ⟨(tk_4 _ (List.mem_of_getElem? (i := 49) rfl)), List.forall_mem_cons.mpr ⟨(tk_5 _ (List.mem_of_getElem? (i := 144) rfl)), List.forall_mem_cons.mpr ⟨(tk_5 _ (List.mem_of_getElem? (i := 146) rfl)), List.forall_mem_cons.mpr ⟨(pk_6 _ (List.mem_of_getElem? (i := 11) rfl)), List.forall_mem_cons.mpr ⟨(tk_5 _ (List.mem_of_getElem? (i := 147) rfl)), List.forall_mem_cons.mpr ⟨(tk_5 _ (List.mem_of_getElem? (i := 148) rfl)), List.forall_mem_cons.mpr ⟨(tk_5 _ (List.mem_of_getElem? (i := 150) rfl)), List.forall_mem_cons.mpr ⟨(pk_6 _ (List.mem_of_getElem? (i := 12) rfl)), List.forall_mem_cons.mpr ⟨(tk_5 _ (List.mem_of_getElem? (i := 151) rfl)), List.forall_mem_cons.mpr ⟨(tk_5 _ (List.mem_of_getElem? (i := 152) rfl)), List.forall_mem_cons.mpr ⟨(tk_5 _ (List.mem_of_getElem? (i := 154) rfl)), List.forall_mem_cons.mpr ⟨(pk_6 _ (List.mem_of_getElem? (i := 13) rfl)), List.forall_mem_cons.mpr ⟨(tk_5 _ (List.mem_of_getElem? (i := 155) rfl)), fun _ h => absurd h List.not_mem_nil⟩⟩⟩⟩⟩⟩⟩⟩⟩⟩⟩⟩⟩⟩⟩⟩⟩⟩⟩⟩⟩⟩⟩⟩
set_option maxRecDepth 100000 in
theorem it_wsL_law_r34 : ∀ w ∈ wsL_law_r34, w ∈ lw_tbl := List.forall_mem_cons.mpr ⟨(tk_5 _ (List.mem_of_getElem? (i := 156) rfl)), List.forall_mem_cons.mpr ⟨(tk_5 _ (List.mem_of_getElem? (i := 158) rfl)), List.forall_mem_cons.mpr ⟨(pk_6 _ (List.mem_of_getElem? (i := 14) rfl)), List.forall_mem_cons.mpr ⟨(tk_5 _ (List.mem_of_getElem? (i := 159) rfl)), List.forall_mem_cons.mpr ⟨(tk_5 _ (List.mem_of_getElem? (i := 160) rfl)), List.forall_mem_cons.mpr ⟨(tk_5 _ (List.mem_of_getElem? (i := 162) rfl)), List.forall_mem_cons.mpr ⟨(pk_6 _ (List.mem_of_getElem? (i := 15) rfl)), List.forall_mem_cons.mpr ⟨(tk_5 _ (List.mem_of_getElem? (i := 163) rfl)), List.forall_mem_cons.mpr ⟨(tk_3 _ (List.mem_of_getElem? (i := 187) rfl)), List.forall_mem_cons.mpr ⟨(tk_3 _ (List.mem_of_getElem? (i := 188) rfl)), List.forall_mem_cons.mpr ⟨(tk_3 _ (List.mem_of_getElem? (i := 189) rfl)), List.forall_mem_cons.mpr ⟨(tk_3 _ (List.mem_of_getElem? (i := 190) rfl)), List.forall_mem_cons.mpr ⟨(tk_5 _ (List.mem_of_getElem? (i := 164) rfl)), List.forall_mem_cons.mpr ⟨(tk_5 _ (List.mem_of_getElem? (i := 165) rfl)), List.forall_mem_cons.mpr ⟨(tk_5 _ (List.mem_of_getElem? (i := 166) rfl)), List.forall_mem_cons.mpr ⟨(tk_5 _ (List.mem_of_getElem? (i := 167) rfl)), List.forall_mem_cons.mpr ⟨(tk_3 _ (List.mem_of_getElem? (i := 191) rfl)), List.forall_mem_cons.mpr ⟨(tk_3 _ (List.mem_of_getElem? (i := 192) rfl)), List.forall_mem_cons.mpr ⟨(tk_3 _ (List.mem_of_getElem? (i := 193) rfl)), List.forall_mem_cons.mpr ⟨(tk_3 _ (List.mem_of_getElem? (i := 194) rfl)), List.forall_mem_cons.mpr ⟨(tk_3 _ (List.mem_of_getElem? (i := 197) rfl)), List.forall_mem_cons.mpr ⟨(pk_4 _ (List.mem_of_getElem? (i := 5) rfl)), List.forall_mem_cons.mpr ⟨(tk_3 _ (List.mem_of_getElem? (i := 198) rfl)), List.forall_mem_cons.mpr ⟨(tk_1 _ (List.mem_of_getElem? (i := 237) rfl)), fun _ h => absurd h List.not_mem_nil⟩⟩⟩⟩⟩⟩⟩⟩⟩⟩⟩⟩⟩⟩⟩⟩⟩⟩⟩⟩⟩⟩⟩⟩
set_option maxRecDepth 100000 in
theorem it_wsL_law_r35 : ∀ w ∈ wsL_law_r35, w ∈ lw_tbl := List.forall_mem_cons.mpr ⟨(tk_5 _ (List.mem_of_getElem? (i := 168) rfl)), List.forall_mem_cons.mpr ⟨(tk_5 _ (List.mem_of_getElem? (i := 169) rfl)), List.forall_mem_cons.mpr ⟨(tk_5 _ (List.mem_of_getElem? (i := 170) rfl)), List.forall_mem_cons.mpr ⟨(tk_5 _ (List.mem_of_getElem? (i := 171) rfl)), List.forall_mem_cons.mpr ⟨(tk_3 _ (List.mem_of_getElem? (i := 199) rfl)), List.forall_mem_cons.mpr ⟨(tk_3 _ (List.mem_of_getElem? (i := 200) rfl)), List.forall_mem_cons.mpr ⟨(tk_3 _ (List.mem_of_getElem? (i := 201) rfl)), List.forall_mem_cons.mpr ⟨(tk_3 _ (List.mem_of_getElem? (i := 202) rfl)), List.forall_mem_cons.mpr ⟨(tk_3 _ (List.mem_of_getElem? (i := 205) rfl)), List.forall_mem_cons.mpr ⟨(pk_4 _ (List.mem_of_getElem? (i := 6) rfl)), List.forall_mem_cons.mpr ⟨(tk_3 _ (List.mem_of_getElem? (i := 206) rfl)), List.forall_mem_cons.mpr ⟨(tk_5 _ (List.mem_of_getElem? (i := 172) rfl)), List.forall_mem_cons.mpr ⟨(tk_5 _ (List.mem_of_getElem? (i := 173) rfl)), List.forall_mem_cons.mpr ⟨(tk_5 _ (List.mem_of_getElem? (i := 174) rfl)), List.forall_mem_cons.mpr ⟨(tk_5 _ (List.mem_of_getElem? (i := 175) rfl)), List.forall_mem_cons.mpr ⟨(tk_5 _ (List.mem_of_getElem? (i := 176) rfl)), List.forall_mem_cons.mpr ⟨(tk_5 _ (List.mem_of_getElem? (i := 177) rfl)), List.forall_mem_cons.mpr ⟨(tk_5 _ (List.mem_of_getElem? (i := 178) rfl)), List.forall_mem_cons.mpr ⟨(tk_3 _ (List.mem_of_getElem? (i := 207) rfl)), List.forall_mem_cons.mpr ⟨(tk_3 _ (List.mem_of_getElem? (i := 208) rfl)), List.forall_mem_cons.mpr ⟨(tk_3 _ (List.mem_of_getElem? (i := 209) rfl)), List.forall_mem_cons.mpr ⟨(tk_3 _ (List.mem_of_getElem? (i := 210) rfl)), List.forall_mem_cons.mpr ⟨(tk_3 _ (List.mem_of_getElem? (i := 215) rfl)), List.forall_mem_cons.mpr ⟨(tk_3 _ (List.mem_of_getElem? (i := 213) rfl)), fun _ h => absurd h List.not_mem_nil⟩⟩⟩⟩⟩⟩⟩⟩⟩⟩⟩⟩⟩⟩⟩⟩⟩⟩⟩⟩⟩⟩⟩⟩
set_option maxRecDepth 100000 in
theorem it_wsL_law_r36 : ∀ w ∈ wsL_law_r36, w ∈ lw_tbl := List.forall_mem_cons.mpr ⟨(pk_4 _ (List.mem_of_getElem? (i := 7) rfl)), List.forall_mem_cons.mpr ⟨(tk_3 _ (List.mem_of_getElem? (i := 214) rfl)), List.forall_mem_cons.mpr ⟨(tk_5 _ (List.mem_of_getElem? (i := 179) rfl)), List.forall_mem_cons.mpr ⟨(tk_5 _ (List.mem_of_getElem? (i := 180) rfl)), List.forall_mem_cons.mpr ⟨(tk_5 _ (List.mem_of_getElem? (i := 181) rfl)), List.forall_mem_cons.mpr ⟨(tk_5 _ (List.mem_of_getElem? (i := 182) rfl)), List.forall_mem_cons.mpr ⟨(tk_3 _ (List.mem_of_getElem? (i := 216) rfl)), List.forall_mem_cons.mpr ⟨(tk_3 _ (List.mem_of_getElem? (i := 217) rfl)), List.forall_mem_cons.mpr ⟨(tk_3 _ (List.mem_of_getElem? (i := 218) rfl)), List.forall_mem_cons.mpr ⟨(tk_3 _ (List.mem_of_getElem? (i := 219) rfl)), List.forall_mem_cons.mpr ⟨(tk_3 _ (List.mem_of_getElem? (i := 220) rfl)), List.forall_mem_cons.mpr ⟨(tk_5 _ (List.mem_of_getElem? (i := 183) rfl)), List.forall_mem_cons.mpr ⟨(tk_5 _ (List.mem_of_getElem? (i := 184) rfl)), List.forall_mem_cons.mpr ⟨(tk_5 _ (List.mem_of_getElem? (i := 185) rfl)), List.forall_mem_cons.mpr ⟨(tk_5 _ (List.mem_of_getElem? (i := 186) rfl)), List.forall_mem_cons.mpr ⟨(tk_3 _ (List.mem_of_getElem? (i := 221) rfl)), List.forall_mem_cons.mpr ⟨(tk_3 _ (List.mem_of_getElem? (i := 222) rfl)), List.forall_mem_cons.mpr ⟨(tk_3 _ (List.mem_of_getElem? (i := 223) rfl)), List.forall_mem_cons.mpr ⟨(tk_3 _ (List.mem_of_getElem? (i := 224) rfl)), List.forall_mem_cons.mpr ⟨(tk_5 _ (List.mem_of_getElem? (i := 187) rfl)), List.forall_mem_cons.mpr ⟨(tk_5 _ (List.mem_of_getElem? (i := 188) rfl)), List.forall_mem_cons.mpr ⟨(tk_5 _ (List.mem_of_getElem? (i := 189) rfl)), List.forall_mem_cons.mpr ⟨(tk_5 _ (List.mem_of_getElem? (i := 190) rfl)), List.forall_mem_cons.mpr ⟨(tk_3 _ (List.mem_of_getElem? (i := 225) rfl)), fun _ h => absurd h List.not_mem_nil⟩⟩⟩⟩⟩⟩⟩⟩⟩⟩⟩⟩⟩⟩⟩⟩⟩⟩⟩⟩⟩⟩⟩⟩
set_option maxRecDepth 100000 in
theorem it_wsL_law_r37 : ∀ w ∈ wsL_law_r37, w ∈ lw_tbl := List.forall_mem_cons.mpr ⟨(tk_3 _ (List.mem_of_getElem? (i := 226) rfl)), List.forall_mem_cons.mpr ⟨(tk_3 _ (List.mem_of_getElem? (i := 227) rfl)), List.forall_mem_cons.mpr ⟨(tk_3 _ (List.mem_of_getElem? (i := 228) rfl)), List.forall_mem_cons.mpr ⟨(tk_2 _ (List.mem_of_getElem? (i := 14) rfl)), List.forall_mem_cons.mpr ⟨(tk_3 _ (List.mem_of_getElem? (i := 231) rfl)), List.forall_mem_cons.mpr ⟨(pk_4 _ (List.mem_of_getElem? (i := 8) rfl)), List.forall_mem_cons.mpr ⟨(tk_3 _ (List.mem_of_getElem? (i := 232) rfl)), List.forall_mem_cons.mpr ⟨(tk_1 _ (List.mem_of_getElem? (i := 151) rfl)), List.forall_mem_cons.mpr ⟨(tk_3 _ (List.mem_of_getElem? (i := 235) rfl)), List.forall_mem_cons.mpr ⟨(tk_1 _ (List.mem_of_getElem? (i := 153) rfl)), List.forall_mem_cons.mpr ⟨(tk_5 _ (List.mem_of_getElem? (i := 191) rfl)), List.forall_mem_cons.mpr ⟨(tk_5 _ (List.mem_of_getElem? (i := 192) rfl)), List.forall_mem_cons.mpr ⟨(tk_5 _ (List.mem_of_getElem? (i := 193) rfl)), List.forall_mem_cons.mpr ⟨(tk_5 _ (List.mem_of_getElem? (i := 194) rfl)), List.forall_mem_cons.mpr ⟨(tk_4 _ (List.mem_of_getElem? (i := 29) rfl)), List.forall_mem_cons.mpr ⟨(tk_4 _ (List.mem_of_getElem? (i := 30) rfl)), List.forall_mem_cons.mpr ⟨(tk_3 _ (List.mem_of_getElem? (i := 236) rfl)), List.forall_mem_cons.mpr ⟨(tk_3 _ (List.mem_of_getElem? (i := 237) rfl)), List.forall_mem_cons.mpr ⟨(tk_3 _ (List.mem_of_getElem? (i := 238) rfl)), List.forall_mem_cons.mpr ⟨(tk_3 _ (List.mem_of_getElem? (i := 239) rfl)), List.forall_mem_cons.mpr ⟨(tk_5 _ (List.mem_of_getElem? (i := 195) rfl)), List.forall_mem_cons.mpr ⟨(tk_5 _ (List.mem_of_getElem? (i := 196) rfl)), List.forall_mem_cons.mpr ⟨(tk_5 _ (List.mem_of_getElem? (i := 197) rfl)), List.forall_mem_cons.mpr ⟨(tk_5 _ (List.mem_of_getElem? (i := 198) rfl)), fun _ h => absurd h List.not_mem_nil⟩⟩⟩⟩⟩⟩⟩⟩⟩⟩⟩⟩⟩⟩⟩⟩⟩⟩⟩⟩⟩⟩⟩⟩
set_option maxRecDepth 100000 in
theorem it_wsL_law_r38 : ∀ w ∈ wsL_law_r38, w ∈ lw_tbl := List.forall_mem_cons.mpr ⟨(tk_4 _ (List.mem_of_getElem? (i := 0) rfl)), List.forall_mem_cons.mpr ⟨(tk_4 _ (List.mem_of_getElem? (i := 1) rfl)), List.forall_mem_cons.mpr ⟨(tk_4 _ (List.mem_of_getElem? (i := 2) rfl)), List.forall_mem_cons.mpr ⟨(tk_4 _ (List.mem_of_getElem? (i := 3) rfl)), List.forall_mem_cons.mpr ⟨(tk_5 _ (List.mem_of_getElem? (i := 199) rfl)), List.forall_mem_cons.mpr ⟨(tk_5 _ (List.mem_of_getElem? (i := 200) rfl)), List.forall_mem_cons.mpr ⟨(tk_5 _ (List.mem_of_getElem? (i := 201) rfl)), List.forall_mem_cons.mpr ⟨(tk_5 _ (List.mem_of_getElem? (i := 202) rfl)), List.forall_mem_cons.mpr ⟨(tk_4 _ (List.mem_of_getElem? (i := 4) rfl)), List.forall_mem_cons.mpr ⟨(tk_4 _ (List.mem_of_getElem? (i := 5) rfl)), List.forall_mem_cons.mpr ⟨(tk_4 _ (List.mem_of_getElem? (i := 6) rfl)), List.forall_mem_cons.mpr ⟨(tk_4 _ (List.mem_of_getElem? (i := 7) rfl)), List.forall_mem_cons.mpr ⟨(tk_5 _ (List.mem_of_getElem? (i := 203) rfl)), List.forall_mem_cons.mpr ⟨(tk_5 _ (List.mem_of_getElem? (i := 204) rfl)), List.forall_mem_cons.mpr ⟨(tk_5 _ (List.mem_of_getElem? (i := 205) rfl)), List.forall_mem_cons.mpr ⟨(tk_5 _ (List.mem_of_getElem? (i := 206) rfl)), List.forall_mem_cons.mpr ⟨(tk_4 _ (List.mem_of_getElem? (i := 8) rfl)), List.forall_mem_cons.mpr ⟨(tk_4 _ (List.mem_of_getElem? (i := 9) rfl)), List.forall_mem_cons.mpr ⟨(tk_4 _ (List.mem_of_getElem? (i := 10) rfl)), List.forall_mem_cons.mpr ⟨(tk_4 _ (List.mem_of_getElem? (i := 11) rfl)), List.forall_mem_cons.mpr ⟨(tk_4 _ (List.mem_of_getElem? (i := 14) rfl)), List.forall_mem_cons.mpr ⟨(pk_4 _ (List.mem_of_getElem? (i := 9) rfl)), List.forall_mem_cons.mpr ⟨(tk_4 _ (List.mem_of_getElem? (i := 15) rfl)), List.forall_mem_cons.mpr ⟨(tk_5 _ (List.mem_of_getElem? (i := 207) rfl)), fun _ h => absurd h List.not_mem_nil⟩⟩⟩⟩⟩⟩⟩⟩⟩⟩⟩⟩⟩⟩⟩⟩⟩⟩⟩⟩⟩⟩⟩⟩
set_option maxRecDepth 100000 in
theorem it_wsL_law_r39 : ∀ w ∈ wsL_law_r39, w ∈ lw_tbl := List.forall_mem_cons.mpr ⟨(tk_5 _ (List.mem_of_getElem? (i := 208) rfl)), List.forall_mem_cons.mpr ⟨(tk_5 _ (List.mem_of_getElem? (i := 209) rfl)), List.forall_mem_cons.mpr ⟨(tk_5 _ (List.mem_of_getElem? (i := 210) rfl)), List.forall_mem_cons.mpr ⟨(tk_5 _ (List.mem_of_getElem? (i := 211) rfl)), List.forall_mem_cons.mpr ⟨(tk_5 _ (List.mem_of_getElem? (i := 213) rfl)), List.forall_mem_cons.mpr ⟨(pk_7 _ (List.mem_of_getElem? (i := 0) rfl)), List.forall_mem_cons.mpr ⟨(tk_5 _ (List.mem_of_getElem? (i := 214) rfl)), List.forall_mem_cons.mpr ⟨(tk_4 _ (List.mem_of_getElem? (i := 16) rfl)), List.forall_mem_cons.mpr ⟨(tk_4 _ (List.mem_of_getElem? (i := 17) rfl)), List.forall_mem_cons.mpr ⟨(tk_4 _ (List.mem_of_getElem? (i := 18) rfl)), List.forall_mem_cons.mpr ⟨(tk_4 _ (List.mem_of_getElem? (i := 19) rfl)), List.forall_mem_cons.mpr ⟨(tk_5 _ (List.mem_of_getElem? (i := 215) rfl)), List.forall_mem_cons.mpr ⟨(tk_5 _ (List.mem_of_getElem? (i := 216) rfl)), List.forall_mem_cons.mpr ⟨(tk_5 _ (List.mem_of_getElem? (i := 217) rfl)), List.forall_mem_cons.mpr ⟨(tk_5 _ (List.mem_of_getElem? (i := 218) rfl)), fun _ h => absurd h List.not_mem_nil⟩⟩⟩⟩⟩⟩⟩⟩⟩⟩⟩⟩⟩⟩⟩
set_option maxRecDepth 100000 in
theorem it_wsX70 : ∀ w ∈ wsX70, w ∈ lw_tbl := (show ∀ w ∈ [u_lay RX7 TX7 0, u_lay RX7 TX7 1, u_lay RX7 TX7 2, u_lay RX7 TX7 3, u_lay RX7 TX7 4, u_lay RX7 TX7 5, u_lay RX7 TX7 6, u_lay RX7 TX7 7], w ∈ lw_tbl from List.forall_mem_cons.mpr ⟨(tk_2 _ (List.mem_of_getElem? (i := 15) rfl)), List.forall_mem_cons.mpr ⟨(tk_2 _ (List.mem_of_getElem? (i := 17) rfl)), List.forall_mem_cons.mpr ⟨(tk_2 _ (List.mem_of_getElem? (i := 19) rfl)), List.forall_mem_cons.mpr ⟨(tk_2 _ (List.mem_of_getElem? (i := 21) rfl)), List.forall_mem_cons.mpr ⟨(tk_2 _ (List.mem_of_getElem? (i := 23) rfl)), List.forall_mem_cons.mpr ⟨(tk_2 _ (List.mem_of_getElem? (i := 25) rfl)), List.forall_mem_cons.mpr ⟨(tk_2 _ (List.mem_of_getElem? (i := 27) rfl)), List.forall_mem_cons.mpr ⟨(tk_2 _ (List.mem_of_getElem? (i := 29) rfl)), fun _ h => absurd h List.not_mem_nil⟩⟩⟩⟩⟩⟩⟩⟩)
set_option maxRecDepth 100000 in
theorem it_wsX80 : ∀ w ∈ wsX80, w ∈ lw_tbl := (show ∀ w ∈ [u_lay RX8 TX8 0, u_lay RX8 TX8 1, u_lay RX8 TX8 2, u_lay RX8 TX8 3, u_lay RX8 TX8 4, u_lay RX8 TX8 5, u_lay RX8 TX8 6, u_lay RX8 TX8 7, u_lay RX8 TX8 8, u_lay RX8 TX8 9, u_lay RX8 TX8 10, u_lay RX8 TX8 11, u_lay RX8 TX8 12, u_lay RX8 TX8 13, u_lay RX8 TX8 14, u_lay RX8 TX8 15, u_lay RX8 TX8 16, u_lay RX8 TX8 17, u_lay RX8 TX8 18, u_lay RX8 TX8 19, u_lay RX8 TX8 20, u_lay RX8 TX8 21, u_lay RX8 TX8 22, u_lay RX8 TX8 23], w ∈ lw_tbl from List.forall_mem_cons.mpr ⟨(tk_4 _ (List.mem_of_getElem? (i := 50) rfl)), List.forall_mem_cons.mpr ⟨(tk_4 _ (List.mem_of_getElem? (i := 52) rfl)), List.forall_mem_cons.mpr ⟨(tk_4 _ (List.mem_of_getElem? (i := 54) rfl)), List.forall_mem_cons.mpr ⟨(tk_4 _ (List.mem_of_getElem? (i := 56) rfl)), List.forall_mem_cons.mpr ⟨(tk_4 _ (List.mem_of_getElem? (i := 58) rfl)), List.forall_mem_cons.mpr ⟨(tk_4 _ (List.mem_of_getElem? (i := 60) rfl)), List.forall_mem_cons.mpr ⟨(tk_4 _ (List.mem_of_getElem? (i := 62) rfl)), List.forall_mem_cons.mpr ⟨(tk_4 _ (List.mem_of_getElem? (i := 64) rfl)), List.forall_mem_cons.mpr ⟨(tk_4 _ (List.mem_of_getElem? (i := 66) rfl)), List.forall_mem_cons.mpr ⟨(tk_4 _ (List.mem_of_getElem? (i := 68) rfl)), List.forall_mem_cons.mpr ⟨(tk_4 _ (List.mem_of_getElem? (i := 70) rfl)), List.forall_mem_cons.mpr ⟨(tk_4 _ (List.mem_of_getElem? (i := 72) rfl)), List.forall_mem_cons.mpr ⟨(tk_4 _ (List.mem_of_getElem? (i := 74) rfl)), List.forall_mem_cons.mpr ⟨(tk_4 _ (List.mem_of_getElem? (i := 76) rfl)), List.forall_mem_cons.mpr ⟨(tk_4 _ (List.mem_of_getElem? (i := 78) rfl)), List.forall_mem_cons.mpr ⟨(tk_4 _ (List.mem_of_getElem? (i := 80) rfl)), List.forall_mem_cons.mpr ⟨(tk_4 _ (List.mem_of_getElem? (i := 82) rfl)), List.forall_mem_cons.mpr ⟨(tk_4 _ (List.mem_of_getElem? (i := 84) rfl)), List.forall_mem_cons.mpr ⟨(tk_4 _ (List.mem_of_getElem? (i := 86) rfl)), List.forall_mem_cons.mpr ⟨(tk_4 _ (List.mem_of_getElem? (i := 88) rfl)), List.forall_mem_cons.mpr ⟨(tk_4 _ (List.mem_of_getElem? (i := 90) rfl)), List.forall_mem_cons.mpr ⟨(tk_4 _ (List.mem_of_getElem? (i := 92) rfl)), List.forall_mem_cons.mpr ⟨(tk_4 _ (List.mem_of_getElem? (i := 94) rfl)), List.forall_mem_cons.mpr ⟨(tk_4 _ (List.mem_of_getElem? (i := 96) rfl)), fun _ h => absurd h List.not_mem_nil⟩⟩⟩⟩⟩⟩⟩⟩⟩⟩⟩⟩⟩⟩⟩⟩⟩⟩⟩⟩⟩⟩⟩⟩)
set_option maxRecDepth 100000 in
theorem it_wsX60 : ∀ w ∈ wsX60, w ∈ lw_tbl := (show ∀ w ∈ [u_lay RX6 TX6 0, u_lay RX6 TX6 1, u_lay RX6 TX6 2, u_lay RX6 TX6 3, u_lay RX6 TX6 4, u_lay RX6 TX6 5, u_lay RX6 TX6 6, u_lay RX6 TX6 7], w ∈ lw_tbl from List.forall_mem_cons.mpr ⟨(tk_1 _ (List.mem_of_getElem? (i := 157) rfl)), List.forall_mem_cons.mpr ⟨(tk_1 _ (List.mem_of_getElem? (i := 159) rfl)), List.forall_mem_cons.mpr ⟨(tk_1 _ (List.mem_of_getElem? (i := 161) rfl)), List.forall_mem_cons.mpr ⟨(tk_1 _ (List.mem_of_getElem? (i := 163) rfl)), List.forall_mem_cons.mpr ⟨(tk_1 _ (List.mem_of_getElem? (i := 165) rfl)), List.forall_mem_cons.mpr ⟨(tk_1 _ (List.mem_of_getElem? (i := 167) rfl)), List.forall_mem_cons.mpr ⟨(tk_1 _ (List.mem_of_getElem? (i := 169) rfl)), List.forall_mem_cons.mpr ⟨(tk_1 _ (List.mem_of_getElem? (i := 171) rfl)), fun _ h => absurd h List.not_mem_nil⟩⟩⟩⟩⟩⟩⟩⟩)
set_option maxRecDepth 100000 in
theorem it_wsX00 : ∀ w ∈ wsX00, w ∈ lw_tbl := (show ∀ w ∈ [u_lay RX0 TX0 0, u_lay RX0 TX0 1, u_lay RX0 TX0 2, u_lay RX0 TX0 3, u_lay RX0 TX0 4, u_lay RX0 TX0 5, u_lay RX0 TX0 6, u_lay RX0 TX0 7, u_lay RX0 TX0 8], w ∈ lw_tbl from List.forall_mem_cons.mpr ⟨(tk_1 _ (List.mem_of_getElem? (i := 118) rfl)), List.forall_mem_cons.mpr ⟨(tk_1 _ (List.mem_of_getElem? (i := 120) rfl)), List.forall_mem_cons.mpr ⟨(tk_1 _ (List.mem_of_getElem? (i := 122) rfl)), List.forall_mem_cons.mpr ⟨(tk_1 _ (List.mem_of_getElem? (i := 124) rfl)), List.forall_mem_cons.mpr ⟨(tk_1 _ (List.mem_of_getElem? (i := 126) rfl)), List.forall_mem_cons.mpr ⟨(tk_1 _ (List.mem_of_getElem? (i := 128) rfl)), List.forall_mem_cons.mpr ⟨(tk_1 _ (List.mem_of_getElem? (i := 130) rfl)), List.forall_mem_cons.mpr ⟨(tk_1 _ (List.mem_of_getElem? (i := 132) rfl)), List.forall_mem_cons.mpr ⟨(tk_1 _ (List.mem_of_getElem? (i := 134) rfl)), fun _ h => absurd h List.not_mem_nil⟩⟩⟩⟩⟩⟩⟩⟩⟩)
set_option maxRecDepth 100000 in
theorem it_wsX20 : ∀ w ∈ wsX20, w ∈ lw_tbl := (show ∀ w ∈ [u_lay RX2 TX2 0, u_lay RX2 TX2 1, u_lay RX2 TX2 2, u_lay RX2 TX2 3, u_lay RX2 TX2 4], w ∈ lw_tbl from List.forall_mem_cons.mpr ⟨(tk_1 _ (List.mem_of_getElem? (i := 190) rfl)), List.forall_mem_cons.mpr ⟨(tk_1 _ (List.mem_of_getElem? (i := 192) rfl)), List.forall_mem_cons.mpr ⟨(tk_1 _ (List.mem_of_getElem? (i := 194) rfl)), List.forall_mem_cons.mpr ⟨(tk_1 _ (List.mem_of_getElem? (i := 196) rfl)), List.forall_mem_cons.mpr ⟨(tk_1 _ (List.mem_of_getElem? (i := 198) rfl)), fun _ h => absurd h List.not_mem_nil⟩⟩⟩⟩⟩)
set_option maxRecDepth 100000 in
theorem it_wsX50 : ∀ w ∈ wsX50, w ∈ lw_tbl := (show ∀ w ∈ [u_lay RX5 TX5 0, u_lay RX5 TX5 1, u_lay RX5 TX5 2, u_lay RX5 TX5 3, u_lay RX5 TX5 4], w ∈ lw_tbl from List.forall_mem_cons.mpr ⟨(tk_1 _ (List.mem_of_getElem? (i := 214) rfl)), List.forall_mem_cons.mpr ⟨(tk_1 _ (List.mem_of_getElem? (i := 216) rfl)), List.forall_mem_cons.mpr ⟨(tk_1 _ (List.mem_of_getElem? (i := 218) rfl)), List.forall_mem_cons.mpr ⟨(tk_1 _ (List.mem_of_getElem? (i := 220) rfl)), List.forall_mem_cons.mpr ⟨(tk_1 _ (List.mem_of_getElem? (i := 222) rfl)), fun _ h => absurd h List.not_mem_nil⟩⟩⟩⟩⟩)
set_option maxRecDepth 100000 in
theorem it_wsX30 : ∀ w ∈ wsX30, w ∈ lw_tbl := (show ∀ w ∈ [u_lay RX3 TX3 0, u_lay RX3 TX3 1, u_lay RX3 TX3 2], w ∈ lw_tbl from List.forall_mem_cons.mpr ⟨(tk_2 _ (List.mem_of_getElem? (i := 0) rfl)), List.forall_mem_cons.mpr ⟨(tk_2 _ (List.mem_of_getElem? (i := 2) rfl)), List.forall_mem_cons.mpr ⟨(tk_2 _ (List.mem_of_getElem? (i := 4) rfl)), fun _ h => absurd h List.not_mem_nil⟩⟩⟩)
set_option maxRecDepth 100000 in
theorem it_wsX40 : ∀ w ∈ wsX40, w ∈ lw_tbl := (show ∀ w ∈ [u_lay RX4 TX4 0, u_lay RX4 TX4 1, u_lay RX4 TX4 2, u_lay RX4 TX4 3, u_lay RX4 TX4 4, u_lay RX4 TX4 5], w ∈ lw_tbl from List.forall_mem_cons.mpr ⟨(tk_1 _ (List.mem_of_getElem? (i := 40) rfl)), List.forall_mem_cons.mpr ⟨(tk_1 _ (List.mem_of_getElem? (i := 42) rfl)), List.forall_mem_cons.mpr ⟨(tk_1 _ (List.mem_of_getElem? (i := 44) rfl)), List.forall_mem_cons.mpr ⟨(tk_1 _ (List.mem_of_getElem? (i := 46) rfl)), List.forall_mem_cons.mpr ⟨(tk_1 _ (List.mem_of_getElem? (i := 48) rfl)), List.forall_mem_cons.mpr ⟨(tk_1 _ (List.mem_of_getElem? (i := 50) rfl)), fun _ h => absurd h List.not_mem_nil⟩⟩⟩⟩⟩⟩)
set_option maxRecDepth 100000 in
theorem it_wsX10 : ∀ w ∈ wsX10, w ∈ lw_tbl := (show ∀ w ∈ [u_lay RX1 TX1 0, u_lay RX1 TX1 1, u_lay RX1 TX1 2, u_lay RX1 TX1 3, u_lay RX1 TX1 4, u_lay RX1 TX1 5, u_lay RX1 TX1 6], w ∈ lw_tbl from List.forall_mem_cons.mpr ⟨(tk_1 _ (List.mem_of_getElem? (i := 87) rfl)), List.forall_mem_cons.mpr ⟨(tk_1 _ (List.mem_of_getElem? (i := 89) rfl)), List.forall_mem_cons.mpr ⟨(tk_1 _ (List.mem_of_getElem? (i := 91) rfl)), List.forall_mem_cons.mpr ⟨(tk_1 _ (List.mem_of_getElem? (i := 93) rfl)), List.forall_mem_cons.mpr ⟨(tk_1 _ (List.mem_of_getElem? (i := 95) rfl)), List.forall_mem_cons.mpr ⟨(tk_1 _ (List.mem_of_getElem? (i := 97) rfl)), List.forall_mem_cons.mpr ⟨(tk_1 _ (List.mem_of_getElem? (i := 99) rfl)), fun _ h => absurd h List.not_mem_nil⟩⟩⟩⟩⟩⟩⟩)
theorem wsL_law_in : ∀ w ∈ wsL_law, w ∈ lw_tbl := by
  intro w h
  rcases List.mem_append.mp h with h | h
  · rcases List.mem_append.mp h with h | h
    · rcases List.mem_append.mp h with h | h
      · rcases List.mem_append.mp h with h | h
        · rcases List.mem_append.mp h with h | h
          · rcases List.mem_append.mp h with h | h
            · rcases List.mem_append.mp h with h | h
              · rcases List.mem_append.mp h with h | h
                · rcases List.mem_append.mp h with h | h
                  · rcases List.mem_append.mp h with h | h
                    · rcases List.mem_append.mp h with h | h
                      · exact it_wsL_law_r1 w h
                      rcases List.mem_append.mp h with h | h
                      · exact it_wsL_law_r2 w h
                      rcases List.mem_append.mp h with h | h
                      · exact it_wsL_law_r3 w h
                      rcases List.mem_append.mp h with h | h
                      · exact it_wsL_law_r4 w h
                      rcases List.mem_append.mp h with h | h
                      · exact it_wsL_law_r5 w h
                      rcases List.mem_append.mp h with h | h
                      · exact it_wsL_law_r6 w h
                      rcases List.mem_append.mp h with h | h
                      · exact it_wsL_law_r7 w h
                      rcases List.mem_append.mp h with h | h
                      · exact it_wsL_law_r8 w h
                      rcases List.mem_append.mp h with h | h
                      · exact it_wsL_law_r9 w h
                      rcases List.mem_append.mp h with h | h
                      · exact it_wsL_law_r10 w h
                      rcases List.mem_append.mp h with h | h
                      · exact it_wsL_law_r11 w h
                      rcases List.mem_append.mp h with h | h
                      · exact it_wsL_law_r12 w h
                      rcases List.mem_append.mp h with h | h
                      · exact it_wsL_law_r13 w h
                      rcases List.mem_append.mp h with h | h
                      · exact it_wsL_law_r14 w h
                      rcases List.mem_append.mp h with h | h
                      · exact it_wsL_law_r15 w h
                      rcases List.mem_append.mp h with h | h
                      · exact it_wsL_law_r16 w h
                      rcases List.mem_append.mp h with h | h
                      · exact it_wsL_law_r17 w h
                      rcases List.mem_append.mp h with h | h
                      · exact it_wsL_law_r18 w h
                      rcases List.mem_append.mp h with h | h
                      · exact it_wsL_law_r19 w h
                      rcases List.mem_append.mp h with h | h
                      · exact it_wsL_law_r20 w h
                      rcases List.mem_append.mp h with h | h
                      · exact it_wsL_law_r21 w h
                      rcases List.mem_append.mp h with h | h
                      · exact it_wsL_law_r22 w h
                      rcases List.mem_append.mp h with h | h
                      · exact it_wsL_law_r23 w h
                      rcases List.mem_append.mp h with h | h
                      · exact it_wsL_law_r24 w h
                      rcases List.mem_append.mp h with h | h
                      · exact it_wsL_law_r25 w h
                      rcases List.mem_append.mp h with h | h
                      · exact it_wsL_law_r26 w h
                      rcases List.mem_append.mp h with h | h
                      · exact it_wsL_law_r27 w h
                      rcases List.mem_append.mp h with h | h
                      · exact it_wsL_law_r28 w h
                      rcases List.mem_append.mp h with h | h
                      · exact it_wsL_law_r29 w h
                      rcases List.mem_append.mp h with h | h
                      · exact it_wsL_law_r30 w h
                      rcases List.mem_append.mp h with h | h
                      · exact it_wsL_law_r31 w h
                      rcases List.mem_append.mp h with h | h
                      · exact it_wsL_law_r32 w h
                      rcases List.mem_append.mp h with h | h
                      · exact it_wsL_law_r33 w h
                      rcases List.mem_append.mp h with h | h
                      · exact it_wsL_law_r34 w h
                      rcases List.mem_append.mp h with h | h
                      · exact it_wsL_law_r35 w h
                      rcases List.mem_append.mp h with h | h
                      · exact it_wsL_law_r36 w h
                      rcases List.mem_append.mp h with h | h
                      · exact it_wsL_law_r37 w h
                      rcases List.mem_append.mp h with h | h
                      · exact it_wsL_law_r38 w h
                      exact it_wsL_law_r39 w h
                    · exact it_wsX70 w h
                  · exact it_wsX80 w h
                · exact it_wsX60 w h
              · exact it_wsX00 w h
            · exact it_wsX20 w h
          · exact it_wsX50 w h
        · exact it_wsX30 w h
      · exact it_wsX40 w h
    · exact it_wsX10 w h
  · exact absurd h List.not_mem_nil
theorem inX0 : ∀ w ∈ wsX00, w ∈ lw_tbl := fun w h => wsL_law_in w (inlX0 w h)
theorem inX1 : ∀ w ∈ wsX10, w ∈ lw_tbl := fun w h => wsL_law_in w (inlX1 w h)
theorem inX2 : ∀ w ∈ wsX20, w ∈ lw_tbl := fun w h => wsL_law_in w (inlX2 w h)
theorem inX3 : ∀ w ∈ wsX30, w ∈ lw_tbl := fun w h => wsL_law_in w (inlX3 w h)
theorem inX4 : ∀ w ∈ wsX40, w ∈ lw_tbl := fun w h => wsL_law_in w (inlX4 w h)
theorem inX5 : ∀ w ∈ wsX50, w ∈ lw_tbl := fun w h => wsL_law_in w (inlX5 w h)
theorem inX6 : ∀ w ∈ wsX60, w ∈ lw_tbl := fun w h => wsL_law_in w (inlX6 w h)
theorem inX7 : ∀ w ∈ wsX70, w ∈ lw_tbl := fun w h => wsL_law_in w (inlX7 w h)
theorem inX8 : ∀ w ∈ wsX80, w ∈ lw_tbl := fun w h => wsL_law_in w (inlX8 w h)
set_option maxRecDepth 100000 in
theorem AW_good : AW.all goodWord = true := by decide +kernel
set_option maxRecDepth 100000 in
theorem NWF_in : ∀ q ∈ NWF, nwf q ∈ lw_tbl := List.forall_mem_cons.mpr ⟨(tk_1 _ (List.mem_of_getElem? (i := 38) rfl)), List.forall_mem_cons.mpr ⟨(tk_1 _ (List.mem_of_getElem? (i := 68) rfl)), List.forall_mem_cons.mpr ⟨(tk_1 _ (List.mem_of_getElem? (i := 70) rfl)), List.forall_mem_cons.mpr ⟨(tk_1 _ (List.mem_of_getElem? (i := 71) rfl)), List.forall_mem_cons.mpr ⟨(tk_1 _ (List.mem_of_getElem? (i := 73) rfl)), List.forall_mem_cons.mpr ⟨(tk_1 _ (List.mem_of_getElem? (i := 74) rfl)), List.forall_mem_cons.mpr ⟨(tk_1 _ (List.mem_of_getElem? (i := 76) rfl)), List.forall_mem_cons.mpr ⟨(tk_1 _ (List.mem_of_getElem? (i := 77) rfl)), List.forall_mem_cons.mpr ⟨(tk_1 _ (List.mem_of_getElem? (i := 79) rfl)), List.forall_mem_cons.mpr ⟨(tk_1 _ (List.mem_of_getElem? (i := 80) rfl)), List.forall_mem_cons.mpr ⟨(tk_1 _ (List.mem_of_getElem? (i := 82) rfl)), List.forall_mem_cons.mpr ⟨(tk_1 _ (List.mem_of_getElem? (i := 83) rfl)), List.forall_mem_cons.mpr ⟨(tk_1 _ (List.mem_of_getElem? (i := 85) rfl)), List.forall_mem_cons.mpr ⟨(tk_1 _ (List.mem_of_getElem? (i := 86) rfl)), List.forall_mem_cons.mpr ⟨(tk_1 _ (List.mem_of_getElem? (i := 105) rfl)), List.forall_mem_cons.mpr ⟨(tk_1 _ (List.mem_of_getElem? (i := 107) rfl)), List.forall_mem_cons.mpr ⟨(tk_1 _ (List.mem_of_getElem? (i := 109) rfl)), List.forall_mem_cons.mpr ⟨(tk_1 _ (List.mem_of_getElem? (i := 111) rfl)), List.forall_mem_cons.mpr ⟨(tk_1 _ (List.mem_of_getElem? (i := 113) rfl)), List.forall_mem_cons.mpr ⟨(tk_1 _ (List.mem_of_getElem? (i := 115) rfl)), List.forall_mem_cons.mpr ⟨(tk_1 _ (List.mem_of_getElem? (i := 117) rfl)), List.forall_mem_cons.mpr ⟨(tk_1 _ (List.mem_of_getElem? (i := 142) rfl)), List.forall_mem_cons.mpr ⟨(tk_1 _ (List.mem_of_getElem? (i := 144) rfl)), List.forall_mem_cons.mpr ⟨(tk_1 _ (List.mem_of_getElem? (i := 146) rfl)), List.forall_mem_cons.mpr ⟨(tk_1 _ (List.mem_of_getElem? (i := 148) rfl)), List.forall_mem_cons.mpr ⟨(tk_1 _ (List.mem_of_getElem? (i := 150) rfl)), List.forall_mem_cons.mpr ⟨(tk_1 _ (List.mem_of_getElem? (i := 152) rfl)), List.forall_mem_cons.mpr ⟨(tk_1 _ (List.mem_of_getElem? (i := 154) rfl)), List.forall_mem_cons.mpr ⟨(tk_1 _ (List.mem_of_getElem? (i := 156) rfl)), List.forall_mem_cons.mpr ⟨(tk_1 _ (List.mem_of_getElem? (i := 185) rfl)), List.forall_mem_cons.mpr ⟨(tk_1 _ (List.mem_of_getElem? (i := 208) rfl)), List.forall_mem_cons.mpr ⟨(tk_1 _ (List.mem_of_getElem? (i := 210) rfl)), List.forall_mem_cons.mpr ⟨(tk_1 _ (List.mem_of_getElem? (i := 233) rfl)), List.forall_mem_cons.mpr ⟨(tk_1 _ (List.mem_of_getElem? (i := 234) rfl)), List.forall_mem_cons.mpr ⟨(tk_1 _ (List.mem_of_getElem? (i := 236) rfl)), List.forall_mem_cons.mpr ⟨(tk_1 _ (List.mem_of_getElem? (i := 238) rfl)), List.forall_mem_cons.mpr ⟨(tk_1 _ (List.mem_of_getElem? (i := 239) rfl)), List.forall_mem_cons.mpr ⟨(tk_2 _ (List.mem_of_getElem? (i := 138) rfl)), fun _ h => absurd h List.not_mem_nil⟩⟩⟩⟩⟩⟩⟩⟩⟩⟩⟩⟩⟩⟩⟩⟩⟩⟩⟩⟩⟩⟩⟩⟩⟩⟩⟩⟩⟩⟩⟩⟩⟩⟩⟩⟩⟩⟩
set_option maxRecDepth 100000 in
theorem NWM_in : ∀ q ∈ NWM, nwm q ∈ lw_tbl := List.forall_mem_cons.mpr ⟨(tk_1 _ (List.mem_of_getElem? (i := 23) rfl)), List.forall_mem_cons.mpr ⟨(tk_1 _ (List.mem_of_getElem? (i := 29) rfl)), List.forall_mem_cons.mpr ⟨(tk_1 _ (List.mem_of_getElem? (i := 56) rfl)), List.forall_mem_cons.mpr ⟨(tk_1 _ (List.mem_of_getElem? (i := 63) rfl)), List.forall_mem_cons.mpr ⟨(tk_1 _ (List.mem_of_getElem? (i := 137) rfl)), List.forall_mem_cons.mpr ⟨(tk_1 _ (List.mem_of_getElem? (i := 175) rfl)), List.forall_mem_cons.mpr ⟨(tk_1 _ (List.mem_of_getElem? (i := 178) rfl)), List.forall_mem_cons.mpr ⟨(tk_1 _ (List.mem_of_getElem? (i := 183) rfl)), List.forall_mem_cons.mpr ⟨(tk_1 _ (List.mem_of_getElem? (i := 203) rfl)), List.forall_mem_cons.mpr ⟨(tk_1 _ (List.mem_of_getElem? (i := 228) rfl)), List.forall_mem_cons.mpr ⟨(tk_2 _ (List.mem_of_getElem? (i := 49) rfl)), List.forall_mem_cons.mpr ⟨(tk_2 _ (List.mem_of_getElem? (i := 57) rfl)), List.forall_mem_cons.mpr ⟨(tk_2 _ (List.mem_of_getElem? (i := 69) rfl)), List.forall_mem_cons.mpr ⟨(tk_2 _ (List.mem_of_getElem? (i := 81) rfl)), List.forall_mem_cons.mpr ⟨(tk_2 _ (List.mem_of_getElem? (i := 85) rfl)), List.forall_mem_cons.mpr ⟨(tk_2 _ (List.mem_of_getElem? (i := 102) rfl)), List.forall_mem_cons.mpr ⟨(tk_2 _ (List.mem_of_getElem? (i := 107) rfl)), List.forall_mem_cons.mpr ⟨(tk_2 _ (List.mem_of_getElem? (i := 111) rfl)), List.forall_mem_cons.mpr ⟨(tk_2 _ (List.mem_of_getElem? (i := 122) rfl)), List.forall_mem_cons.mpr ⟨(tk_2 _ (List.mem_of_getElem? (i := 134) rfl)), List.forall_mem_cons.mpr ⟨(tk_2 _ (List.mem_of_getElem? (i := 149) rfl)), List.forall_mem_cons.mpr ⟨(tk_2 _ (List.mem_of_getElem? (i := 157) rfl)), List.forall_mem_cons.mpr ⟨(tk_2 _ (List.mem_of_getElem? (i := 173) rfl)), List.forall_mem_cons.mpr ⟨(tk_2 _ (List.mem_of_getElem? (i := 178) rfl)), List.forall_mem_cons.mpr ⟨(tk_2 _ (List.mem_of_getElem? (i := 201) rfl)), List.forall_mem_cons.mpr ⟨(tk_2 _ (List.mem_of_getElem? (i := 205) rfl)), List.forall_mem_cons.mpr ⟨(tk_2 _ (List.mem_of_getElem? (i := 214) rfl)), List.forall_mem_cons.mpr ⟨(tk_2 _ (List.mem_of_getElem? (i := 220) rfl)), List.forall_mem_cons.mpr ⟨(tk_2 _ (List.mem_of_getElem? (i := 239) rfl)), List.forall_mem_cons.mpr ⟨(tk_3 _ (List.mem_of_getElem? (i := 4) rfl)), List.forall_mem_cons.mpr ⟨(tk_3 _ (List.mem_of_getElem? (i := 5) rfl)), List.forall_mem_cons.mpr ⟨(tk_3 _ (List.mem_of_getElem? (i := 7) rfl)), List.forall_mem_cons.mpr ⟨(tk_3 _ (List.mem_of_getElem? (i := 25) rfl)), List.forall_mem_cons.mpr ⟨(tk_3 _ (List.mem_of_getElem? (i := 38) rfl)), List.forall_mem_cons.mpr ⟨(tk_3 _ (List.mem_of_getElem? (i := 42) rfl)), List.forall_mem_cons.mpr ⟨(tk_3 _ (List.mem_of_getElem? (i := 59) rfl)), List.forall_mem_cons.mpr ⟨(tk_3 _ (List.mem_of_getElem? (i := 72) rfl)), List.forall_mem_cons.mpr ⟨(tk_3 _ (List.mem_of_getElem? (i := 77) rfl)), List.forall_mem_cons.mpr ⟨(tk_3 _ (List.mem_of_getElem? (i := 100) rfl)), List.forall_mem_cons.mpr ⟨(tk_3 _ (List.mem_of_getElem? (i := 104) rfl)), List.forall_mem_cons.mpr ⟨(tk_3 _ (List.mem_of_getElem? (i := 123) rfl)), List.forall_mem_cons.mpr ⟨(tk_3 _ (List.mem_of_getElem? (i := 128) rfl)), List.forall_mem_cons.mpr ⟨(tk_3 _ (List.mem_of_getElem? (i := 140) rfl)), List.forall_mem_cons.mpr ⟨(tk_3 _ (List.mem_of_getElem? (i := 159) rfl)), List.forall_mem_cons.mpr ⟨(tk_3 _ (List.mem_of_getElem? (i := 163) rfl)), List.forall_mem_cons.mpr ⟨(tk_3 _ (List.mem_of_getElem? (i := 195) rfl)), List.forall_mem_cons.mpr ⟨(tk_3 _ (List.mem_of_getElem? (i := 203) rfl)), List.forall_mem_cons.mpr ⟨(tk_3 _ (List.mem_of_getElem? (i := 211) rfl)), List.forall_mem_cons.mpr ⟨(tk_3 _ (List.mem_of_getElem? (i := 229) rfl)), List.forall_mem_cons.mpr ⟨(tk_3 _ (List.mem_of_getElem? (i := 233) rfl)), List.forall_mem_cons.mpr ⟨(tk_3 _ (List.mem_of_getElem? (i := 234) rfl)), List.forall_mem_cons.mpr ⟨(tk_4 _ (List.mem_of_getElem? (i := 12) rfl)), fun _ h => absurd h List.not_mem_nil⟩⟩⟩⟩⟩⟩⟩⟩⟩⟩⟩⟩⟩⟩⟩⟩⟩⟩⟩⟩⟩⟩⟩⟩⟩⟩⟩⟩⟩⟩⟩⟩⟩⟩⟩⟩⟩⟩⟩⟩⟩⟩⟩⟩⟩⟩⟩⟩⟩⟩⟩⟩
end
section
abbrev wY : Type := ClassId × ClassId × ClassId
abbrev Mem : Type := Nat → Nat → Int32
def kdL : List Nat := [7, 6, 4, 9, 9, 9, 9, 4, 9, 9, 9, 9, 0, 10, 1, 1, 1, 1, 1, 1, 1, 1, 1, 9, 9, 6, 4, 9, 9, 9, 9, 4, 9, 9, 9, 9, 0, 10, 1, 1, 1, 1, 1, 1, 1, 1, 1, 9, 9, 0, 10, 1, 1, 1, 1, 1, 1, 1, 1, 1, 2, 4, 9, 9, 9, 9, 9, 5, 9, 11, 3, 9, 3, 9, 3, 9, 3, 9, 9, 8, 9, 9, 9, 9, 9, 9, 9, 9, 9, 9, 9, 9]
def lnL : List Nat := [0, 0, 0, 50, 50, 50, 50, 0, 50, 50, 50, 50, 0, 9, 0, 0, 0, 0, 0, 0, 0, 0, 0, 50, 20, 0, 0, 50, 50, 50, 50, 0, 50, 50, 50, 50, 0, 9, 0, 0, 0, 0, 0, 0, 0, 0, 0, 50, 20, 0, 9, 0, 0, 0, 0, 0, 0, 0, 0, 0, 0, 0, 50, 50, 50, 50, 50, 0, 40, 4, 0, 40, 0, 40, 0, 40, 0, 40, 6, 0, 244, 244, 244, 6, 50, 50, 3, 4, 4, 160, 40, 40]
def rfL : List (List Nat) := [[1, 25, 49, 60, 67, 69, 78], [2, 7, 12, 23, 24], [3, 4, 5, 6], [], [], [], [], [8, 9, 10, 11], [], [], [], [], [2, 7, 13], [14, 15, 16, 17, 18, 19, 20, 21, 22], [], [], [], [], [], [], [], [], [], [], [], [26, 31, 36, 47, 48], [27, 28, 29, 30], [], [], [], [], [32, 33, 34, 35], [], [], [], [], [26, 31, 37], [38, 39, 40, 41, 42, 43, 44, 45, 46], [], [], [], [], [], [], [], [], [], [], [], [2, 7, 50], [51, 52, 53, 54, 55, 56, 57, 58, 59], [], [], [], [], [], [], [], [], [], [61, 66], [62, 63, 64, 65], [], [], [], [], [], [68], [], [70, 72, 74, 76], [71], [], [73], [], [75], [], [77], [], [], [80, 81, 82, 0, 0, 83, 0, 0, 0, 0, 0, 0, 84, 85, 86, 87, 88, 89, 90, 91], [], [], [], [], [], [], [], [], [], [], [], []]
def kd (i : Nat) : Nat := kdL.getD i 99
def ln (i : Nat) : Nat := lnL.getD i 0
def rf (i k : Nat) : Nat := (rfL.getD i []).getD k 0
def up (M : Mem) (i k : Nat) (x : Int32) : Mem := fun b j => if b = i ∧ j = k then x else M b j
def upA (M : Mem) (i : Nat) (f : Nat → Int32) : Mem := fun b => if b = i then f else M b
theorem up_same {M : Mem} {i k : Nat} {x : Int32} : up M i k x i k = x := by simp [up]
theorem up_slot {M : Mem} {i k j : Nat} {x : Int32} (b : Nat) (h : j ≠ k) : up M i k x b j = M b j := by simp [up, h]
theorem up_cell {M : Mem} {i k j b : Nat} {x : Int32} (h : b ≠ i) : up M i k x b j = M b j := by simp [up, h]
theorem upA_same {M : Mem} {i : Nat} {f : Nat → Int32} : upA M i f i = f := by simp [upA]
theorem upA_cell {M : Mem} {i b : Nat} {f : Nat → Int32} (h : b ≠ i) : upA M i f b = M b := by simp [upA, h]
theorem ti_ne {x v : Int32} {n : Int} (hv : v.toInt = n) (h : ¬ x = v) : x.toInt ≠ n := fun e => h (Int32.toInt_inj.mp (e.trans hv.symm))
theorem ti_eq {x v : Int32} {n : Int} (hv : v.toInt = n) (h : x = v) : x.toInt = n := by rw [h, hv]
theorem ti_lt {x z : Int32} {a b : Int} (hx : x.toInt = a) (hz : z.toInt = b) (h : x < z) : a < b := by rw [← hx, ← hz]; exact Int32.lt_iff_toInt_lt.mp h
theorem ti_nlt {x z : Int32} {a b : Int} (hx : x.toInt = a) (hz : z.toInt = b) (h : ¬ x < z) : b ≤ a := by rw [← hx, ← hz]; exact Int.not_lt.mp (fun q => h (Int32.lt_iff_toInt_lt.mpr q))
theorem ti_le {x z : Int32} {a b : Int} (hx : x.toInt = a) (hz : z.toInt = b) (h : x ≤ z) : a ≤ b := by rw [← hx, ← hz]; exact Int32.le_iff_toInt_le.mp h
theorem ti_nle {x z : Int32} {a b : Int} (hx : x.toInt = a) (hz : z.toInt = b) (h : ¬ x ≤ z) : b < a := by rw [← hx, ← hz]; exact Int.not_le.mp (fun q => h (Int32.le_iff_toInt_le.mpr q))
theorem nI_oft {x : Int32} {n : Nat} (h0 : 0 ≤ x.toInt) (h1 : x.toInt ≤ n) (hn : n < 2 ^ 31) : ∃ j : Nat, j ≤ n ∧ x = nI j := ⟨x.toInt.toNat, by omega, Int32.toInt_inj.mp (by rw [nI_toInt (by omega)]; omega)⟩
/-- all stays but what P names -/
def sm (P : Nat → Nat → Bool) (M M1 : Mem) : Prop := ∀ b k, P b k = false → M1 b k = M b k
theorem sm_rf {P : Nat → Nat → Bool} {M : Mem} : sm P M M := fun _ _ _ => rfl
theorem sm_tr {P : Nat → Nat → Bool} {M M1 M2 : Mem} (h : sm P M M1) (h2 : sm P M1 M2) : sm P M M2 := fun b k hb => (h2 b k hb).trans (h b k hb)
theorem sm_up {P : Nat → Nat → Bool} {M M1 : Mem} {i k : Nat} {x : Int32} (h : sm P M M1) (hp : P i k = true) : sm P M (up M1 i k x) := by
  intro b j hb
  rw [← h b j hb]
  by_cases hc : b = i ∧ j = k
  · rw [hc.1, hc.2, hp] at hb; cases hb
  · simp [up, hc]
theorem sm_upA {P : Nat → Nat → Bool} {M M1 : Mem} {i : Nat} {f : Nat → Int32} (h : sm P M M1) (hp : ∀ j, P i j = true) : sm P M (upA M1 i f) := by
  intro b j hb
  rw [← h b j hb]
  by_cases hc : b = i
  · rw [hc, hp j] at hb; cases hb
  · simp [upA, hc]
theorem sm_w {P P2 : Nat → Nat → Bool} {M M1 : Mem} (h : sm P M M1) (hp : ∀ b k, P2 b k = false → P b k = false) : sm P2 M M1 := fun b k hb => h b k (hp b k hb)
/-- a cell of the world, by its number -/
def wE (y : wY) (ad : Nat → Nat) (M : Mem) (i : Nat) : va_E := match kd i with
  | 0 => .inr (0, [.ref (ad (rf i 0)), .ref (ad (rf i 1)), .ref (ad (rf i 2)), .int (M i 3), .int (M i 4), .int (M i 5), .int (M i 6), .int (M i 7), .int (M i 8)])
  | 1 => .inr (1, [.int (M i 0), .int (M i 1), .int (M i 2), .int (M i 3), .int (M i 4), .int (M i 5), .int (M i 6)])
  | 2 => .inr (2, [.ref (ad (rf i 0)), .ref (ad (rf i 1)), .int (M i 2), .int (M i 3), .int (M i 4)])
  | 3 => .inr (3, [.ref (ad (rf i 0)), .int (M i 1), .int (M i 2)])
  | 4 => .inr (4, [.ref (ad (rf i 0)), .ref (ad (rf i 1)), .ref (ad (rf i 2)), .ref (ad (rf i 3)), .int (M i 4), .int (M i 5)])
  | 5 => .inr (5, [.ref (ad (rf i 0)), .int (M i 1), .int (M i 2), .int (M i 3), .int (M i 4)])
  | 6 => .inr (6, [.ref (ad (rf i 0)), .ref (ad (rf i 1)), .ref (ad (rf i 2)), .ref (ad (rf i 3)), .ref (ad (rf i 4)), .int (M i 5), .int (M i 6), .int (M i 7)])
  | 7 => .inr (7, [.ref (ad (rf i 0)), .ref (ad (rf i 1)), .ref (ad (rf i 2)), .ref (ad (rf i 3)), .ref (ad (rf i 4)), .ref (ad (rf i 5)), .ref (ad (rf i 6)), .int (M i 7)])
  | 8 => .inr (8, [.ref (ad (rf i 0)), .ref (ad (rf i 1)), .ref (ad (rf i 2)), .int (M i 3), .int (M i 4), .ref (ad (rf i 5)), .int (M i 6), .int (M i 7), .int (M i 8), .int (M i 9), .int (M i 10), .int (M i 11), .ref (ad (rf i 12)), .ref (ad (rf i 13)), .ref (ad (rf i 14)), .ref (ad (rf i 15)), .ref (ad (rf i 16)), .ref (ad (rf i 17)), .ref (ad (rf i 18)), .ref (ad (rf i 19)), .int (M i 20), .int (M i 21), .int (M i 22), .int (M i 23)])
  | 9 => .inl (y.1, ln i, .inl (M i))
  | 10 => .inl (y.2.1, ln i, .inr (.inr (.inr (.inr (fun j => some (ad (rf i j)))))))
  | 11 => .inl (y.2.2, ln i, .inr (.inr (.inr (.inr (fun j => some (ad (rf i j)))))))
  | _ => .inl (y.1, 0, .inl (fun _ => 0))
theorem wE_0 {y : wY} {ad : Nat → Nat} (M : Mem) {i : Nat} (h : kd i = 0) : wE y ad M i = .inr (0, [.ref (ad (rf i 0)), .ref (ad (rf i 1)), .ref (ad (rf i 2)), .int (M i 3), .int (M i 4), .int (M i 5), .int (M i 6), .int (M i 7), .int (M i 8)]) := by simp only [wE, h]
theorem wE_1 {y : wY} {ad : Nat → Nat} (M : Mem) {i : Nat} (h : kd i = 1) : wE y ad M i = .inr (1, [.int (M i 0), .int (M i 1), .int (M i 2), .int (M i 3), .int (M i 4), .int (M i 5), .int (M i 6)]) := by simp only [wE, h]
theorem wE_2 {y : wY} {ad : Nat → Nat} (M : Mem) {i : Nat} (h : kd i = 2) : wE y ad M i = .inr (2, [.ref (ad (rf i 0)), .ref (ad (rf i 1)), .int (M i 2), .int (M i 3), .int (M i 4)]) := by simp only [wE, h]
theorem wE_3 {y : wY} {ad : Nat → Nat} (M : Mem) {i : Nat} (h : kd i = 3) : wE y ad M i = .inr (3, [.ref (ad (rf i 0)), .int (M i 1), .int (M i 2)]) := by simp only [wE, h]
theorem wE_4 {y : wY} {ad : Nat → Nat} (M : Mem) {i : Nat} (h : kd i = 4) : wE y ad M i = .inr (4, [.ref (ad (rf i 0)), .ref (ad (rf i 1)), .ref (ad (rf i 2)), .ref (ad (rf i 3)), .int (M i 4), .int (M i 5)]) := by simp only [wE, h]
theorem wE_5 {y : wY} {ad : Nat → Nat} (M : Mem) {i : Nat} (h : kd i = 5) : wE y ad M i = .inr (5, [.ref (ad (rf i 0)), .int (M i 1), .int (M i 2), .int (M i 3), .int (M i 4)]) := by simp only [wE, h]
theorem wE_6 {y : wY} {ad : Nat → Nat} (M : Mem) {i : Nat} (h : kd i = 6) : wE y ad M i = .inr (6, [.ref (ad (rf i 0)), .ref (ad (rf i 1)), .ref (ad (rf i 2)), .ref (ad (rf i 3)), .ref (ad (rf i 4)), .int (M i 5), .int (M i 6), .int (M i 7)]) := by simp only [wE, h]
theorem wE_7 {y : wY} {ad : Nat → Nat} (M : Mem) {i : Nat} (h : kd i = 7) : wE y ad M i = .inr (7, [.ref (ad (rf i 0)), .ref (ad (rf i 1)), .ref (ad (rf i 2)), .ref (ad (rf i 3)), .ref (ad (rf i 4)), .ref (ad (rf i 5)), .ref (ad (rf i 6)), .int (M i 7)]) := by simp only [wE, h]
theorem wE_8 {y : wY} {ad : Nat → Nat} (M : Mem) {i : Nat} (h : kd i = 8) : wE y ad M i = .inr (8, [.ref (ad (rf i 0)), .ref (ad (rf i 1)), .ref (ad (rf i 2)), .int (M i 3), .int (M i 4), .ref (ad (rf i 5)), .int (M i 6), .int (M i 7), .int (M i 8), .int (M i 9), .int (M i 10), .int (M i 11), .ref (ad (rf i 12)), .ref (ad (rf i 13)), .ref (ad (rf i 14)), .ref (ad (rf i 15)), .ref (ad (rf i 16)), .ref (ad (rf i 17)), .ref (ad (rf i 18)), .ref (ad (rf i 19)), .int (M i 20), .int (M i 21), .int (M i 22), .int (M i 23)]) := by simp only [wE, h]
theorem wE_9 {y : wY} {ad : Nat → Nat} (M : Mem) {i : Nat} (h : kd i = 9) : wE y ad M i = .inl (y.1, ln i, .inl (M i)) := by simp only [wE, h]
theorem wE_10 {y : wY} {ad : Nat → Nat} (M : Mem) {i : Nat} (h : kd i = 10) : wE y ad M i = .inl (y.2.1, ln i, .inr (.inr (.inr (.inr (fun j => some (ad (rf i j))))))) := by simp only [wE, h]
theorem wE_11 {y : wY} {ad : Nat → Nat} (M : Mem) {i : Nat} (h : kd i = 11) : wE y ad M i = .inl (y.2.2, ln i, .inr (.inr (.inr (.inr (fun j => some (ad (rf i j))))))) := by simp only [wE, h]
theorem wP_0_3 {y : wY} {ad : Nat → Nat} (M : Mem) {i : Nat} (x : Int32) (h : kd i = 0) : wE y ad (up M i 3 x) i = .inr (0, [.ref (ad (rf i 0)), .ref (ad (rf i 1)), .ref (ad (rf i 2)), .int (M i 3), .int (M i 4), .int (M i 5), .int (M i 6), .int (M i 7), .int (M i 8)].set 3 (.int x)) := by rw [wE_0 _ h]; simp [up]
theorem wP_0_4 {y : wY} {ad : Nat → Nat} (M : Mem) {i : Nat} (x : Int32) (h : kd i = 0) : wE y ad (up M i 4 x) i = .inr (0, [.ref (ad (rf i 0)), .ref (ad (rf i 1)), .ref (ad (rf i 2)), .int (M i 3), .int (M i 4), .int (M i 5), .int (M i 6), .int (M i 7), .int (M i 8)].set 4 (.int x)) := by rw [wE_0 _ h]; simp [up]
theorem wP_0_5 {y : wY} {ad : Nat → Nat} (M : Mem) {i : Nat} (x : Int32) (h : kd i = 0) : wE y ad (up M i 5 x) i = .inr (0, [.ref (ad (rf i 0)), .ref (ad (rf i 1)), .ref (ad (rf i 2)), .int (M i 3), .int (M i 4), .int (M i 5), .int (M i 6), .int (M i 7), .int (M i 8)].set 5 (.int x)) := by rw [wE_0 _ h]; simp [up]
theorem wP_0_6 {y : wY} {ad : Nat → Nat} (M : Mem) {i : Nat} (x : Int32) (h : kd i = 0) : wE y ad (up M i 6 x) i = .inr (0, [.ref (ad (rf i 0)), .ref (ad (rf i 1)), .ref (ad (rf i 2)), .int (M i 3), .int (M i 4), .int (M i 5), .int (M i 6), .int (M i 7), .int (M i 8)].set 6 (.int x)) := by rw [wE_0 _ h]; simp [up]
theorem wP_0_7 {y : wY} {ad : Nat → Nat} (M : Mem) {i : Nat} (x : Int32) (h : kd i = 0) : wE y ad (up M i 7 x) i = .inr (0, [.ref (ad (rf i 0)), .ref (ad (rf i 1)), .ref (ad (rf i 2)), .int (M i 3), .int (M i 4), .int (M i 5), .int (M i 6), .int (M i 7), .int (M i 8)].set 7 (.int x)) := by rw [wE_0 _ h]; simp [up]
theorem wP_0_8 {y : wY} {ad : Nat → Nat} (M : Mem) {i : Nat} (x : Int32) (h : kd i = 0) : wE y ad (up M i 8 x) i = .inr (0, [.ref (ad (rf i 0)), .ref (ad (rf i 1)), .ref (ad (rf i 2)), .int (M i 3), .int (M i 4), .int (M i 5), .int (M i 6), .int (M i 7), .int (M i 8)].set 8 (.int x)) := by rw [wE_0 _ h]; simp [up]
theorem wP_1_0 {y : wY} {ad : Nat → Nat} (M : Mem) {i : Nat} (x : Int32) (h : kd i = 1) : wE y ad (up M i 0 x) i = .inr (1, [.int (M i 0), .int (M i 1), .int (M i 2), .int (M i 3), .int (M i 4), .int (M i 5), .int (M i 6)].set 0 (.int x)) := by rw [wE_1 _ h]; simp [up]
theorem wP_1_1 {y : wY} {ad : Nat → Nat} (M : Mem) {i : Nat} (x : Int32) (h : kd i = 1) : wE y ad (up M i 1 x) i = .inr (1, [.int (M i 0), .int (M i 1), .int (M i 2), .int (M i 3), .int (M i 4), .int (M i 5), .int (M i 6)].set 1 (.int x)) := by rw [wE_1 _ h]; simp [up]
theorem wP_1_2 {y : wY} {ad : Nat → Nat} (M : Mem) {i : Nat} (x : Int32) (h : kd i = 1) : wE y ad (up M i 2 x) i = .inr (1, [.int (M i 0), .int (M i 1), .int (M i 2), .int (M i 3), .int (M i 4), .int (M i 5), .int (M i 6)].set 2 (.int x)) := by rw [wE_1 _ h]; simp [up]
theorem wP_1_3 {y : wY} {ad : Nat → Nat} (M : Mem) {i : Nat} (x : Int32) (h : kd i = 1) : wE y ad (up M i 3 x) i = .inr (1, [.int (M i 0), .int (M i 1), .int (M i 2), .int (M i 3), .int (M i 4), .int (M i 5), .int (M i 6)].set 3 (.int x)) := by rw [wE_1 _ h]; simp [up]
theorem wP_1_4 {y : wY} {ad : Nat → Nat} (M : Mem) {i : Nat} (x : Int32) (h : kd i = 1) : wE y ad (up M i 4 x) i = .inr (1, [.int (M i 0), .int (M i 1), .int (M i 2), .int (M i 3), .int (M i 4), .int (M i 5), .int (M i 6)].set 4 (.int x)) := by rw [wE_1 _ h]; simp [up]
theorem wP_1_5 {y : wY} {ad : Nat → Nat} (M : Mem) {i : Nat} (x : Int32) (h : kd i = 1) : wE y ad (up M i 5 x) i = .inr (1, [.int (M i 0), .int (M i 1), .int (M i 2), .int (M i 3), .int (M i 4), .int (M i 5), .int (M i 6)].set 5 (.int x)) := by rw [wE_1 _ h]; simp [up]
theorem wP_1_6 {y : wY} {ad : Nat → Nat} (M : Mem) {i : Nat} (x : Int32) (h : kd i = 1) : wE y ad (up M i 6 x) i = .inr (1, [.int (M i 0), .int (M i 1), .int (M i 2), .int (M i 3), .int (M i 4), .int (M i 5), .int (M i 6)].set 6 (.int x)) := by rw [wE_1 _ h]; simp [up]
theorem wP_2_2 {y : wY} {ad : Nat → Nat} (M : Mem) {i : Nat} (x : Int32) (h : kd i = 2) : wE y ad (up M i 2 x) i = .inr (2, [.ref (ad (rf i 0)), .ref (ad (rf i 1)), .int (M i 2), .int (M i 3), .int (M i 4)].set 2 (.int x)) := by rw [wE_2 _ h]; simp [up]
theorem wP_2_3 {y : wY} {ad : Nat → Nat} (M : Mem) {i : Nat} (x : Int32) (h : kd i = 2) : wE y ad (up M i 3 x) i = .inr (2, [.ref (ad (rf i 0)), .ref (ad (rf i 1)), .int (M i 2), .int (M i 3), .int (M i 4)].set 3 (.int x)) := by rw [wE_2 _ h]; simp [up]
theorem wP_2_4 {y : wY} {ad : Nat → Nat} (M : Mem) {i : Nat} (x : Int32) (h : kd i = 2) : wE y ad (up M i 4 x) i = .inr (2, [.ref (ad (rf i 0)), .ref (ad (rf i 1)), .int (M i 2), .int (M i 3), .int (M i 4)].set 4 (.int x)) := by rw [wE_2 _ h]; simp [up]
theorem wP_3_1 {y : wY} {ad : Nat → Nat} (M : Mem) {i : Nat} (x : Int32) (h : kd i = 3) : wE y ad (up M i 1 x) i = .inr (3, [.ref (ad (rf i 0)), .int (M i 1), .int (M i 2)].set 1 (.int x)) := by rw [wE_3 _ h]; simp [up]
theorem wP_3_2 {y : wY} {ad : Nat → Nat} (M : Mem) {i : Nat} (x : Int32) (h : kd i = 3) : wE y ad (up M i 2 x) i = .inr (3, [.ref (ad (rf i 0)), .int (M i 1), .int (M i 2)].set 2 (.int x)) := by rw [wE_3 _ h]; simp [up]
theorem wP_4_4 {y : wY} {ad : Nat → Nat} (M : Mem) {i : Nat} (x : Int32) (h : kd i = 4) : wE y ad (up M i 4 x) i = .inr (4, [.ref (ad (rf i 0)), .ref (ad (rf i 1)), .ref (ad (rf i 2)), .ref (ad (rf i 3)), .int (M i 4), .int (M i 5)].set 4 (.int x)) := by rw [wE_4 _ h]; simp [up]
theorem wP_4_5 {y : wY} {ad : Nat → Nat} (M : Mem) {i : Nat} (x : Int32) (h : kd i = 4) : wE y ad (up M i 5 x) i = .inr (4, [.ref (ad (rf i 0)), .ref (ad (rf i 1)), .ref (ad (rf i 2)), .ref (ad (rf i 3)), .int (M i 4), .int (M i 5)].set 5 (.int x)) := by rw [wE_4 _ h]; simp [up]
theorem wP_5_1 {y : wY} {ad : Nat → Nat} (M : Mem) {i : Nat} (x : Int32) (h : kd i = 5) : wE y ad (up M i 1 x) i = .inr (5, [.ref (ad (rf i 0)), .int (M i 1), .int (M i 2), .int (M i 3), .int (M i 4)].set 1 (.int x)) := by rw [wE_5 _ h]; simp [up]
theorem wP_5_2 {y : wY} {ad : Nat → Nat} (M : Mem) {i : Nat} (x : Int32) (h : kd i = 5) : wE y ad (up M i 2 x) i = .inr (5, [.ref (ad (rf i 0)), .int (M i 1), .int (M i 2), .int (M i 3), .int (M i 4)].set 2 (.int x)) := by rw [wE_5 _ h]; simp [up]
theorem wP_5_3 {y : wY} {ad : Nat → Nat} (M : Mem) {i : Nat} (x : Int32) (h : kd i = 5) : wE y ad (up M i 3 x) i = .inr (5, [.ref (ad (rf i 0)), .int (M i 1), .int (M i 2), .int (M i 3), .int (M i 4)].set 3 (.int x)) := by rw [wE_5 _ h]; simp [up]
theorem wP_5_4 {y : wY} {ad : Nat → Nat} (M : Mem) {i : Nat} (x : Int32) (h : kd i = 5) : wE y ad (up M i 4 x) i = .inr (5, [.ref (ad (rf i 0)), .int (M i 1), .int (M i 2), .int (M i 3), .int (M i 4)].set 4 (.int x)) := by rw [wE_5 _ h]; simp [up]
theorem wP_6_5 {y : wY} {ad : Nat → Nat} (M : Mem) {i : Nat} (x : Int32) (h : kd i = 6) : wE y ad (up M i 5 x) i = .inr (6, [.ref (ad (rf i 0)), .ref (ad (rf i 1)), .ref (ad (rf i 2)), .ref (ad (rf i 3)), .ref (ad (rf i 4)), .int (M i 5), .int (M i 6), .int (M i 7)].set 5 (.int x)) := by rw [wE_6 _ h]; simp [up]
theorem wP_6_6 {y : wY} {ad : Nat → Nat} (M : Mem) {i : Nat} (x : Int32) (h : kd i = 6) : wE y ad (up M i 6 x) i = .inr (6, [.ref (ad (rf i 0)), .ref (ad (rf i 1)), .ref (ad (rf i 2)), .ref (ad (rf i 3)), .ref (ad (rf i 4)), .int (M i 5), .int (M i 6), .int (M i 7)].set 6 (.int x)) := by rw [wE_6 _ h]; simp [up]
theorem wP_6_7 {y : wY} {ad : Nat → Nat} (M : Mem) {i : Nat} (x : Int32) (h : kd i = 6) : wE y ad (up M i 7 x) i = .inr (6, [.ref (ad (rf i 0)), .ref (ad (rf i 1)), .ref (ad (rf i 2)), .ref (ad (rf i 3)), .ref (ad (rf i 4)), .int (M i 5), .int (M i 6), .int (M i 7)].set 7 (.int x)) := by rw [wE_6 _ h]; simp [up]
theorem wP_7_7 {y : wY} {ad : Nat → Nat} (M : Mem) {i : Nat} (x : Int32) (h : kd i = 7) : wE y ad (up M i 7 x) i = .inr (7, [.ref (ad (rf i 0)), .ref (ad (rf i 1)), .ref (ad (rf i 2)), .ref (ad (rf i 3)), .ref (ad (rf i 4)), .ref (ad (rf i 5)), .ref (ad (rf i 6)), .int (M i 7)].set 7 (.int x)) := by rw [wE_7 _ h]; simp [up]
theorem wP_8_3 {y : wY} {ad : Nat → Nat} (M : Mem) {i : Nat} (x : Int32) (h : kd i = 8) : wE y ad (up M i 3 x) i = .inr (8, [.ref (ad (rf i 0)), .ref (ad (rf i 1)), .ref (ad (rf i 2)), .int (M i 3), .int (M i 4), .ref (ad (rf i 5)), .int (M i 6), .int (M i 7), .int (M i 8), .int (M i 9), .int (M i 10), .int (M i 11), .ref (ad (rf i 12)), .ref (ad (rf i 13)), .ref (ad (rf i 14)), .ref (ad (rf i 15)), .ref (ad (rf i 16)), .ref (ad (rf i 17)), .ref (ad (rf i 18)), .ref (ad (rf i 19)), .int (M i 20), .int (M i 21), .int (M i 22), .int (M i 23)].set 3 (.int x)) := by rw [wE_8 _ h]; simp [up]
theorem wP_8_4 {y : wY} {ad : Nat → Nat} (M : Mem) {i : Nat} (x : Int32) (h : kd i = 8) : wE y ad (up M i 4 x) i = .inr (8, [.ref (ad (rf i 0)), .ref (ad (rf i 1)), .ref (ad (rf i 2)), .int (M i 3), .int (M i 4), .ref (ad (rf i 5)), .int (M i 6), .int (M i 7), .int (M i 8), .int (M i 9), .int (M i 10), .int (M i 11), .ref (ad (rf i 12)), .ref (ad (rf i 13)), .ref (ad (rf i 14)), .ref (ad (rf i 15)), .ref (ad (rf i 16)), .ref (ad (rf i 17)), .ref (ad (rf i 18)), .ref (ad (rf i 19)), .int (M i 20), .int (M i 21), .int (M i 22), .int (M i 23)].set 4 (.int x)) := by rw [wE_8 _ h]; simp [up]
theorem wP_8_6 {y : wY} {ad : Nat → Nat} (M : Mem) {i : Nat} (x : Int32) (h : kd i = 8) : wE y ad (up M i 6 x) i = .inr (8, [.ref (ad (rf i 0)), .ref (ad (rf i 1)), .ref (ad (rf i 2)), .int (M i 3), .int (M i 4), .ref (ad (rf i 5)), .int (M i 6), .int (M i 7), .int (M i 8), .int (M i 9), .int (M i 10), .int (M i 11), .ref (ad (rf i 12)), .ref (ad (rf i 13)), .ref (ad (rf i 14)), .ref (ad (rf i 15)), .ref (ad (rf i 16)), .ref (ad (rf i 17)), .ref (ad (rf i 18)), .ref (ad (rf i 19)), .int (M i 20), .int (M i 21), .int (M i 22), .int (M i 23)].set 6 (.int x)) := by rw [wE_8 _ h]; simp [up]
theorem wP_8_7 {y : wY} {ad : Nat → Nat} (M : Mem) {i : Nat} (x : Int32) (h : kd i = 8) : wE y ad (up M i 7 x) i = .inr (8, [.ref (ad (rf i 0)), .ref (ad (rf i 1)), .ref (ad (rf i 2)), .int (M i 3), .int (M i 4), .ref (ad (rf i 5)), .int (M i 6), .int (M i 7), .int (M i 8), .int (M i 9), .int (M i 10), .int (M i 11), .ref (ad (rf i 12)), .ref (ad (rf i 13)), .ref (ad (rf i 14)), .ref (ad (rf i 15)), .ref (ad (rf i 16)), .ref (ad (rf i 17)), .ref (ad (rf i 18)), .ref (ad (rf i 19)), .int (M i 20), .int (M i 21), .int (M i 22), .int (M i 23)].set 7 (.int x)) := by rw [wE_8 _ h]; simp [up]
theorem wP_8_8 {y : wY} {ad : Nat → Nat} (M : Mem) {i : Nat} (x : Int32) (h : kd i = 8) : wE y ad (up M i 8 x) i = .inr (8, [.ref (ad (rf i 0)), .ref (ad (rf i 1)), .ref (ad (rf i 2)), .int (M i 3), .int (M i 4), .ref (ad (rf i 5)), .int (M i 6), .int (M i 7), .int (M i 8), .int (M i 9), .int (M i 10), .int (M i 11), .ref (ad (rf i 12)), .ref (ad (rf i 13)), .ref (ad (rf i 14)), .ref (ad (rf i 15)), .ref (ad (rf i 16)), .ref (ad (rf i 17)), .ref (ad (rf i 18)), .ref (ad (rf i 19)), .int (M i 20), .int (M i 21), .int (M i 22), .int (M i 23)].set 8 (.int x)) := by rw [wE_8 _ h]; simp [up]
theorem wP_8_9 {y : wY} {ad : Nat → Nat} (M : Mem) {i : Nat} (x : Int32) (h : kd i = 8) : wE y ad (up M i 9 x) i = .inr (8, [.ref (ad (rf i 0)), .ref (ad (rf i 1)), .ref (ad (rf i 2)), .int (M i 3), .int (M i 4), .ref (ad (rf i 5)), .int (M i 6), .int (M i 7), .int (M i 8), .int (M i 9), .int (M i 10), .int (M i 11), .ref (ad (rf i 12)), .ref (ad (rf i 13)), .ref (ad (rf i 14)), .ref (ad (rf i 15)), .ref (ad (rf i 16)), .ref (ad (rf i 17)), .ref (ad (rf i 18)), .ref (ad (rf i 19)), .int (M i 20), .int (M i 21), .int (M i 22), .int (M i 23)].set 9 (.int x)) := by rw [wE_8 _ h]; simp [up]
theorem wP_8_10 {y : wY} {ad : Nat → Nat} (M : Mem) {i : Nat} (x : Int32) (h : kd i = 8) : wE y ad (up M i 10 x) i = .inr (8, [.ref (ad (rf i 0)), .ref (ad (rf i 1)), .ref (ad (rf i 2)), .int (M i 3), .int (M i 4), .ref (ad (rf i 5)), .int (M i 6), .int (M i 7), .int (M i 8), .int (M i 9), .int (M i 10), .int (M i 11), .ref (ad (rf i 12)), .ref (ad (rf i 13)), .ref (ad (rf i 14)), .ref (ad (rf i 15)), .ref (ad (rf i 16)), .ref (ad (rf i 17)), .ref (ad (rf i 18)), .ref (ad (rf i 19)), .int (M i 20), .int (M i 21), .int (M i 22), .int (M i 23)].set 10 (.int x)) := by rw [wE_8 _ h]; simp [up]
theorem wP_8_11 {y : wY} {ad : Nat → Nat} (M : Mem) {i : Nat} (x : Int32) (h : kd i = 8) : wE y ad (up M i 11 x) i = .inr (8, [.ref (ad (rf i 0)), .ref (ad (rf i 1)), .ref (ad (rf i 2)), .int (M i 3), .int (M i 4), .ref (ad (rf i 5)), .int (M i 6), .int (M i 7), .int (M i 8), .int (M i 9), .int (M i 10), .int (M i 11), .ref (ad (rf i 12)), .ref (ad (rf i 13)), .ref (ad (rf i 14)), .ref (ad (rf i 15)), .ref (ad (rf i 16)), .ref (ad (rf i 17)), .ref (ad (rf i 18)), .ref (ad (rf i 19)), .int (M i 20), .int (M i 21), .int (M i 22), .int (M i 23)].set 11 (.int x)) := by rw [wE_8 _ h]; simp [up]
theorem wP_8_20 {y : wY} {ad : Nat → Nat} (M : Mem) {i : Nat} (x : Int32) (h : kd i = 8) : wE y ad (up M i 20 x) i = .inr (8, [.ref (ad (rf i 0)), .ref (ad (rf i 1)), .ref (ad (rf i 2)), .int (M i 3), .int (M i 4), .ref (ad (rf i 5)), .int (M i 6), .int (M i 7), .int (M i 8), .int (M i 9), .int (M i 10), .int (M i 11), .ref (ad (rf i 12)), .ref (ad (rf i 13)), .ref (ad (rf i 14)), .ref (ad (rf i 15)), .ref (ad (rf i 16)), .ref (ad (rf i 17)), .ref (ad (rf i 18)), .ref (ad (rf i 19)), .int (M i 20), .int (M i 21), .int (M i 22), .int (M i 23)].set 20 (.int x)) := by rw [wE_8 _ h]; simp [up]
theorem wP_8_21 {y : wY} {ad : Nat → Nat} (M : Mem) {i : Nat} (x : Int32) (h : kd i = 8) : wE y ad (up M i 21 x) i = .inr (8, [.ref (ad (rf i 0)), .ref (ad (rf i 1)), .ref (ad (rf i 2)), .int (M i 3), .int (M i 4), .ref (ad (rf i 5)), .int (M i 6), .int (M i 7), .int (M i 8), .int (M i 9), .int (M i 10), .int (M i 11), .ref (ad (rf i 12)), .ref (ad (rf i 13)), .ref (ad (rf i 14)), .ref (ad (rf i 15)), .ref (ad (rf i 16)), .ref (ad (rf i 17)), .ref (ad (rf i 18)), .ref (ad (rf i 19)), .int (M i 20), .int (M i 21), .int (M i 22), .int (M i 23)].set 21 (.int x)) := by rw [wE_8 _ h]; simp [up]
theorem wP_8_22 {y : wY} {ad : Nat → Nat} (M : Mem) {i : Nat} (x : Int32) (h : kd i = 8) : wE y ad (up M i 22 x) i = .inr (8, [.ref (ad (rf i 0)), .ref (ad (rf i 1)), .ref (ad (rf i 2)), .int (M i 3), .int (M i 4), .ref (ad (rf i 5)), .int (M i 6), .int (M i 7), .int (M i 8), .int (M i 9), .int (M i 10), .int (M i 11), .ref (ad (rf i 12)), .ref (ad (rf i 13)), .ref (ad (rf i 14)), .ref (ad (rf i 15)), .ref (ad (rf i 16)), .ref (ad (rf i 17)), .ref (ad (rf i 18)), .ref (ad (rf i 19)), .int (M i 20), .int (M i 21), .int (M i 22), .int (M i 23)].set 22 (.int x)) := by rw [wE_8 _ h]; simp [up]
theorem wP_8_23 {y : wY} {ad : Nat → Nat} (M : Mem) {i : Nat} (x : Int32) (h : kd i = 8) : wE y ad (up M i 23 x) i = .inr (8, [.ref (ad (rf i 0)), .ref (ad (rf i 1)), .ref (ad (rf i 2)), .int (M i 3), .int (M i 4), .ref (ad (rf i 5)), .int (M i 6), .int (M i 7), .int (M i 8), .int (M i 9), .int (M i 10), .int (M i 11), .ref (ad (rf i 12)), .ref (ad (rf i 13)), .ref (ad (rf i 14)), .ref (ad (rf i 15)), .ref (ad (rf i 16)), .ref (ad (rf i 17)), .ref (ad (rf i 18)), .ref (ad (rf i 19)), .int (M i 20), .int (M i 21), .int (M i 22), .int (M i 23)].set 23 (.int x)) := by rw [wE_8 _ h]; simp [up]
theorem wE_other {y : wY} {ad : Nat → Nat} {M M' : Mem} {i : Nat} (h : M' i = M i) : wE y ad M' i = wE y ad M i := by unfold wE; rw [h]
/-- the world -/
def PL (y : wY) (ad : Nat → Nat) (M : Mem) : va_W := (List.range 92).map (fun i => (ad i, wE y ad M i))
theorem PL_get {y : wY} {ad : Nat → Nat} {M : Mem} {i : Nat} (h : i < 92) : (PL y ad M)[i]? = some (ad i, wE y ad M i) := by simp [PL, h]
theorem PL_at {y : wY} {ad : Nat → Nat} {M : Mem} {i : Nat} {e : va_E} (h : i < 92) (he : wE y ad M i = e) : (PL y ad M)[i]? = some (ad i, e) := by rw [PL_get h, he]
theorem PL_set {y : wY} {ad : Nat → Nat} {M M' : Mem} {i : Nat} {e : va_E} (h : i < 92) (he : wE y ad M' i = e) (ho : ∀ b, b ≠ i → M' b = M b) : (PL y ad M).set i (ad i, e) = PL y ad M' := by
  apply List.ext_getElem?
  intro j
  rw [List.getElem?_set]
  by_cases hj : i = j
  · subst hj
    have hl : i < (PL y ad M).length := by simp [PL, h]
    simp only [hl, if_true]
    rw [PL_get h, he]
  · simp only [hj, if_false]
    simp only [PL, List.getElem?_map]
    cases hr : (List.range 92)[j]? with
    | none => rfl
    | some q =>
      have hq : q = j := by
        rcases Nat.lt_or_ge j 92 with h1 | h1
        · rw [List.getElem?_range h1] at hr; exact (Option.some.inj hr).symm
        · rw [List.getElem?_eq_none (by simpa using h1)] at hr; cases hr
      subst hq
      simp only [Option.map_some]
      rw [wE_other (ho q (fun h => hj h.symm))]
theorem PL_D {y : wY} {ad : Nat → Nat} {M M' : Mem} {A : Nat → Prop} (h : va_D A (PL y ad M)) : va_D A (PL y ad M') := by
  have tr : ∀ (k : Nat) (q : Nat × va_E), (PL y ad M')[k]? = some q → ∃ e, (PL y ad M)[k]? = some (q.1, e) := by
    intro k q hq
    rcases Nat.lt_or_ge k 92 with h1 | h1
    · rw [PL_get h1] at hq
      cases hq
      exact ⟨_, PL_get h1⟩
    · rw [List.getElem?_eq_none (by simpa [PL] using h1)] at hq; cases hq
  refine ⟨fun i j p q hp hq hpq => ?_, fun k q hq => ?_⟩
  · obtain ⟨e1, h1⟩ := tr i p hp
    obtain ⟨e2, h2⟩ := tr j q hq
    exact h.1 i j (p.1, e1) (q.1, e2) h1 h2 hpq
  · obtain ⟨e, h1⟩ := tr k q hq
    exact h.2 k (q.1, e) h1
theorem PL_A {y : wY} {ad : Nat → Nat} {M M' : Mem} {sz : Nat} : va_A (PL y ad M) sz = va_A (PL y ad M') sz := by
  have tr : ∀ (M M' : Mem) (q : Nat), va_A (PL y ad M) sz q → va_A (PL y ad M') sz q := by
    intro M M' q h
    rcases h with ⟨k, e, hk⟩ | h
    · rcases Nat.lt_or_ge k 92 with h1 | h1
      · rw [PL_get h1] at hk
        cases hk
        exact Or.inl ⟨k, _, PL_get h1⟩
      · rw [List.getElem?_eq_none (by simpa [PL] using h1)] at hk; cases hk
    · exact Or.inr h
  funext q
  exact propext ⟨tr M M' q, tr M' M q⟩
/-- what the tables say: the classes, the links of nest mates -/
def NestOK (U : State) : Prop := (∀ q ∈ NWF, va_Nw (nwf q) U) ∧ (∀ q ∈ NWM, va_Nw (nwm q) U)
theorem NestOK.warm {s U : State} (hW : s.WarmedH U.vm) (h : NestOK s) : NestOK U := ⟨fun q hq => va_Nw.warmF hW (h.1 q hq), fun q hq => va_Nw.warmM hW (h.2 q hq)⟩
theorem NestOK.same {s U : State} (hv : s.vm = U.vm) (h : NestOK s) : NestOK U := ⟨fun q hq => va_Nw.same rfl hv (h.1 q hq), fun q hq => va_Nw.same rfl hv (h.2 q hq)⟩
abbrev tysL (y : wY) : List (ClassId × FieldType) := [(y.1, .int), (y.2.1, .object "KnivesGround$One"), (y.2.2, .object "KnivesGround$Sheet")]
def Tb (D : va_G) (y : wY) (U : State) : Prop := va_K D vwCl (tysL y) U ∧ NestOK U
theorem Tb.warm {D : va_G} {y : wY} {s U : State} (hW : s.WarmedH U.vm) (h : Tb D y s) : Tb D y U := ⟨va_K.moved hW.alike h.1, h.2.warm hW⟩
theorem Tb.calling {D : va_G} {y : wY} {U : State} {g : JFrame} {mk : MethodId} {a : Array Value} (h : Tb D y U) : Tb D y (U.calling g mk a) := ⟨va_K.moved (u := U) (U := U.calling g mk a) (Vm.Alike.refl U.vm) h.1, h.2.same rfl⟩
/-- a method's words: its own code, and all -/
abbrev wm (w : Cond) : List Cond := w :: AW
theorem gAW {Ts : List Cond} {b : Cond} (hT : ∀ w ∈ AW, w ∈ Ts) (hb : b ∈ AW) : GoodIn Ts (wm b) := by
  intro w h
  have hw : w ∈ AW := by
    rcases List.mem_cons.mp h with rfl | h
    · exact hb
    · exact h
  exact ⟨hT _ hw, good_of_word (List.all_eq_true.mp AW_good w hw)⟩
abbrev rmN (n : Nat) : Room := { frames := n, cells := 0, slots := 0, locals := 60 * n }
/-- a method's start -/
def PcM (D : va_G) (y : wY) (ad : Nat → Nat) (M : Mem) (sz : Nat) (av : List Value) : Array Value → State → Prop := va_Pc av (fun U => U.heap.size = sz ∧ va_P D vwCl (PL y ad M) U.heap ∧ Tb D y U ∧ va_D (fun _ => True) (PL y ad M))
/-- contracts over the world: an int (or boolean) comes back; nothing; -/
def MI (l : Launch) (D : va_G) (y : wY) (ad : Nat → Nat) (nm : MethodName) (code : Cond) (n : Nat) (M : Mem) (av : List Value) (post : Int32 → Mem → Prop) : Prop :=
  ∀ sz : Nat, Met l nm (wm code) (rmN n) (PcM D y ad M sz av) (va_Qi post (fun M' t => va_P D vwCl (PL y ad M') t.heap) (va_A (PL y ad M) sz)) 0 0 (va_A (PL y ad M) sz)
def MV (l : Launch) (D : va_G) (y : wY) (ad : Nat → Nat) (nm : MethodName) (code : Cond) (n : Nat) (M : Mem) (av : List Value) (post : Mem → Prop) : Prop :=
  ∀ sz : Nat, Met l nm (wm code) (rmN n) (PcM D y ad M sz av) (va_Qv post (fun M' t => va_P D vwCl (PL y ad M') t.heap) (va_A (PL y ad M) sz)) 0 0 (va_A (PL y ad M) sz)
def MR (l : Launch) (D : va_G) (y : wY) (ad : Nat → Nat) (nm : MethodName) (code : Cond) (n : Nat) (M : Mem) (av : List Value) (post : Nat → Mem → Prop) : Prop :=
  ∀ sz : Nat, Met l nm (wm code) (rmN n) (PcM D y ad M sz av) (va_Qr (fun u : Nat × Mem => post u.1 u.2) (fun u a t => a = ad u.1 ∧ va_P D vwCl (PL y ad u.2) t.heap) (va_A (PL y ad M) sz)) 0 0 (va_A (PL y ad M) sz)
theorem PcM_blind {D : va_G} {y : wY} {ad : Nat → Nat} {M : Mem} {sz : Nat} {av : List Value} : FrameBlind (PcM D y ad M sz av) := by
  intro a U g mk q
  obtain ⟨h1, h2, h3, h4, h5⟩ := q
  exact ⟨h1, h2, h3, h4.calling, h5⟩
/-- where a body stands: at pc, with locals lv and stack st, over the memory M -/
def J (p : Program) (l : Launch) (e : Env) (R : Room) (s : State) (m : MethodId) (args : Array Value) (below : List Frame) (meth : Method) (c : Code) (kc ks : Nat) (Q : State → Prop) (D : va_G) (y : wY) (ad : Nat → Nat) (A : Nat → Prop) (nL : Nat) (M : Mem) (pc : Nat) (lv : List (Nat × Value)) (st : List Value) : Prop :=
  ∀ (H : Heap) (locs : List Loc) (ls : Array Slot), va_P D vwCl (PL y ad M) H → va_D A (PL y ad M) → va_S A s.heap H locs → lv_has ls nL lv → W p l e R s m args below meth c H locs kc ks Q (F0 m pc ls st)
/-- what stays true in a body -/
def Amb (p : Program) (m : MethodId) (c : Code) (cc : ByteArray) (nL : Nat) (s : State) (args : Array Value) (Ts : List Cond) (own : String) (D : va_G) (y : wY) (A : Nat → Prop) : Prop :=
  CallFix p m c cc nL s args Ts own ∧ Tb D y s ∧ (∀ q : Nat, s.heap.size ≤ q → A q) ∧ ∀ w ∈ AW, w ∈ Ts
section JJ
variable {p : Program} {l : Launch} {e : Env} {R : Room} {s : State} {m : MethodId} {args : Array Value} {below : List Frame} {meth : Method} {c : Code} {kc ks : Nat} {Q : State → Prop} {D : va_G} {y : wY} {ad : Nat → Nat} {A : Nat → Prop} {nL : Nat} {M : Mem} {pc : Nat} {lv : List (Nat × Value)} {st : List Value}
variable {cc : ByteArray} {Ts : List Cond} {own : String}
theorem j_iconst (X : Amb p m c cc nL s args Ts own D y A) {n : Int} {v : Int32} (hv : Int32.ofInt n = v) (hdg : decode cc pc = .ok (.iconst n, 1)) (k : J p l e R s m args below meth c kc ks Q D y ad A nL M (pc + 1) lv (.int v :: st)) : J p l e R s m args below meth c kc ks Q D y ad A nL M (pc) lv (st) := fun H locs ls hP hD hS hl => lv_iconst X.1.1 X.1.2.1 hdg hv (k H locs ls hP hD hS hl)
theorem j_bipush (X : Amb p m c cc nL s args Ts own D y A) {n : Int} {v : Int32} (hv : (Int8.ofInt n).toInt32 = v) (hdg : decode cc pc = .ok (.bipush n, 2)) (k : J p l e R s m args below meth c kc ks Q D y ad A nL M (pc + 2) lv (.int v :: st)) : J p l e R s m args below meth c kc ks Q D y ad A nL M (pc) lv (st) := fun H locs ls hP hD hS hl => lv_bipush X.1.1 X.1.2.1 hdg hv (k H locs ls hP hD hS hl)
theorem j_sipush (X : Amb p m c cc nL s args Ts own D y A) {n : Int} {v : Int32} (hv : (Int16.ofInt n).toInt32 = v) (hdg : decode cc pc = .ok (.sipush n, 3)) (k : J p l e R s m args below meth c kc ks Q D y ad A nL M (pc + 3) lv (.int v :: st)) : J p l e R s m args below meth c kc ks Q D y ad A nL M (pc) lv (st) := fun H locs ls hP hD hS hl => lv_sipush X.1.1 X.1.2.1 hdg hv (k H locs ls hP hD hS hl)
theorem j_ldc (X : Amb p m c cc nL s args Ts own D y A) {index : Nat} {v : Int32} (hw : Cond.constant own index v ∈ AW) (hdg : decode cc pc = .ok (.ldc index, 2)) (k : J p l e R s m args below meth c kc ks Q D y ad A nL M (pc + 2) lv (.int v :: st)) : J p l e R s m args below meth c kc ks Q D y ad A nL M (pc) lv (st) := fun H locs ls hP hD hS hl => lv_ldc X.1.1 X.1.2.1 X.1.2.2.2.1 (X.1.2.2.2.2 _ (X.2.2.2 _ hw)) hdg (k H locs ls hP hD hS hl)
theorem j_ldcw (X : Amb p m c cc nL s args Ts own D y A) {index : Nat} {v : Int32} (hw : Cond.constant own index v ∈ AW) (hdg : decode cc pc = .ok (.ldc_w index, 3)) (k : J p l e R s m args below meth c kc ks Q D y ad A nL M (pc + 3) lv (.int v :: st)) : J p l e R s m args below meth c kc ks Q D y ad A nL M (pc) lv (st) := fun H locs ls hP hD hS hl => lv_ldcw X.1.1 X.1.2.1 X.1.2.2.2.1 (X.1.2.2.2.2 _ (X.2.2.2 _ hw)) hdg (k H locs ls hP hD hS hl)
theorem j_ldc2 (X : Amb p m c cc nL s args Ts own D y A) {index : Nat} {v : Int64} (hw : Cond.constantLong own index v ∈ AW) (hdg : decode cc pc = .ok (.ldc2_w index, 3)) (k : J p l e R s m args below meth c kc ks Q D y ad A nL M (pc + 3) lv (.long v :: st)) : J p l e R s m args below meth c kc ks Q D y ad A nL M (pc) lv (st) := fun H locs ls hP hD hS hl => lv_ldc2 X.1.1 X.1.2.1 X.1.2.2.2.1 (X.1.2.2.2.2 _ (X.2.2.2 _ hw)) hdg (k H locs ls hP hD hS hl)
theorem j_iload_n (X : Amb p m c cc nL s args Ts own D y A) {f : Fin 4} {i : Nat} {x : Int32} (q : Nat) (hi : (f : Nat) = i) (hq : lv[q]? = some (i, .int x)) (hdg : decode cc pc = .ok (.iload_n f, 1)) (k : J p l e R s m args below meth c kc ks Q D y ad A nL M (pc + 1) lv (.int x :: st)) : J p l e R s m args below meth c kc ks Q D y ad A nL M (pc) lv (st) := fun H locs ls hP hD hS hl => lv_iload_n X.1.1 X.1.2.1 hdg hi (lv_at hl q hq) (k H locs ls hP hD hS hl)
theorem j_iload (X : Amb p m c cc nL s args Ts own D y A) {i : Nat} {x : Int32} (q : Nat) (hq : lv[q]? = some (i, .int x)) (hdg : decode cc pc = .ok (.iload i, 2)) (k : J p l e R s m args below meth c kc ks Q D y ad A nL M (pc + 2) lv (.int x :: st)) : J p l e R s m args below meth c kc ks Q D y ad A nL M (pc) lv (st) := fun H locs ls hP hD hS hl => lv_iload X.1.1 X.1.2.1 hdg (lv_at hl q hq) (k H locs ls hP hD hS hl)
theorem j_lload_n (X : Amb p m c cc nL s args Ts own D y A) {f : Fin 4} {i : Nat} {x : Int64} (q : Nat) (hi : (f : Nat) = i) (hq : lv[q]? = some (i, .long x)) (hdg : decode cc pc = .ok (.lload_n f, 1)) (k : J p l e R s m args below meth c kc ks Q D y ad A nL M (pc + 1) lv (.long x :: st)) : J p l e R s m args below meth c kc ks Q D y ad A nL M (pc) lv (st) := fun H locs ls hP hD hS hl => lv_lload_n X.1.1 X.1.2.1 hdg hi (lv_at hl q hq) (k H locs ls hP hD hS hl)
theorem j_lload (X : Amb p m c cc nL s args Ts own D y A) {i : Nat} {x : Int64} (q : Nat) (hq : lv[q]? = some (i, .long x)) (hdg : decode cc pc = .ok (.lload i, 2)) (k : J p l e R s m args below meth c kc ks Q D y ad A nL M (pc + 2) lv (.long x :: st)) : J p l e R s m args below meth c kc ks Q D y ad A nL M (pc) lv (st) := fun H locs ls hP hD hS hl => lv_lload X.1.1 X.1.2.1 hdg (lv_at hl q hq) (k H locs ls hP hD hS hl)
theorem j_aload_n (X : Amb p m c cc nL s args Ts own D y A) {f : Fin 4} {i : Nat} {x : Nat} (q : Nat) (hi : (f : Nat) = i) (hq : lv[q]? = some (i, .ref x)) (hdg : decode cc pc = .ok (.aload_n f, 1)) (k : J p l e R s m args below meth c kc ks Q D y ad A nL M (pc + 1) lv (.ref x :: st)) : J p l e R s m args below meth c kc ks Q D y ad A nL M (pc) lv (st) := fun H locs ls hP hD hS hl => lv_aload_n X.1.1 X.1.2.1 hdg hi (lv_at hl q hq) (k H locs ls hP hD hS hl)
theorem j_aload (X : Amb p m c cc nL s args Ts own D y A) {i : Nat} {x : Nat} (q : Nat) (hq : lv[q]? = some (i, .ref x)) (hdg : decode cc pc = .ok (.aload i, 2)) (k : J p l e R s m args below meth c kc ks Q D y ad A nL M (pc + 2) lv (.ref x :: st)) : J p l e R s m args below meth c kc ks Q D y ad A nL M (pc) lv (st) := fun H locs ls hP hD hS hl => lv_aload X.1.1 X.1.2.1 hdg (lv_at hl q hq) (k H locs ls hP hD hS hl)
theorem j_istore_n (X : Amb p m c cc nL s args Ts own D y A) {f : Fin 4} {i : Nat} {x : Int32} (lv1 : List (Nat × Value)) (hi : (f : Nat) = i) (hn : i < nL) (hv : (i, Value.int x) :: lv.filter (fun q => !(q.1 == i) && !(q.1 + 1 == i && q.2.category == 2)) = lv1) (hdg : decode cc pc = .ok (.istore_n f, 1)) (k : J p l e R s m args below meth c kc ks Q D y ad A nL M (pc + 1) lv1 (st)) : J p l e R s m args below meth c kc ks Q D y ad A nL M (pc) lv (.int x :: st) := fun H locs ls hP hD hS hl => lv_istore_n X.1.1 X.1.2.1 hdg hi hl hn hv (fun ls hl => k H locs ls hP hD hS hl)
theorem j_istore (X : Amb p m c cc nL s args Ts own D y A) {i : Nat} {x : Int32} (lv1 : List (Nat × Value)) (hn : i < nL) (hv : (i, Value.int x) :: lv.filter (fun q => !(q.1 == i) && !(q.1 + 1 == i && q.2.category == 2)) = lv1) (hdg : decode cc pc = .ok (.istore i, 2)) (k : J p l e R s m args below meth c kc ks Q D y ad A nL M (pc + 2) lv1 (st)) : J p l e R s m args below meth c kc ks Q D y ad A nL M (pc) lv (.int x :: st) := fun H locs ls hP hD hS hl => lv_istore X.1.1 X.1.2.1 hdg hl hn hv (fun ls hl => k H locs ls hP hD hS hl)
theorem j_astore_n (X : Amb p m c cc nL s args Ts own D y A) {f : Fin 4} {i : Nat} {x : Nat} (lv1 : List (Nat × Value)) (hi : (f : Nat) = i) (hn : i < nL) (hv : (i, Value.ref x) :: lv.filter (fun q => !(q.1 == i) && !(q.1 + 1 == i && q.2.category == 2)) = lv1) (hdg : decode cc pc = .ok (.astore_n f, 1)) (k : J p l e R s m args below meth c kc ks Q D y ad A nL M (pc + 1) lv1 (st)) : J p l e R s m args below meth c kc ks Q D y ad A nL M (pc) lv (.ref x :: st) := fun H locs ls hP hD hS hl => lv_astore_n X.1.1 X.1.2.1 hdg hi hl hn hv (fun ls hl => k H locs ls hP hD hS hl)
theorem j_astore (X : Amb p m c cc nL s args Ts own D y A) {i : Nat} {x : Nat} (lv1 : List (Nat × Value)) (hn : i < nL) (hv : (i, Value.ref x) :: lv.filter (fun q => !(q.1 == i) && !(q.1 + 1 == i && q.2.category == 2)) = lv1) (hdg : decode cc pc = .ok (.astore i, 2)) (k : J p l e R s m args below meth c kc ks Q D y ad A nL M (pc + 2) lv1 (st)) : J p l e R s m args below meth c kc ks Q D y ad A nL M (pc) lv (.ref x :: st) := fun H locs ls hP hD hS hl => lv_astore X.1.1 X.1.2.1 hdg hl hn hv (fun ls hl => k H locs ls hP hD hS hl)
theorem j_iinc (X : Amb p m c cc nL s args Ts own D y A) {i : Nat} {n : Int} {x v : Int32} (q : Nat) (lv1 : List (Nat × Value)) (hq : lv[q]? = some (i, .int x)) (hv : x + Int32.ofInt n = v) (hn : i < nL) (hl1 : (i, Value.int v) :: lv.filter (fun q => !(q.1 == i) && !(q.1 + 1 == i && q.2.category == 2)) = lv1) (hdg : decode cc pc = .ok (.iinc i n, 3)) (k : J p l e R s m args below meth c kc ks Q D y ad A nL M (pc + 3) lv1 (st)) : J p l e R s m args below meth c kc ks Q D y ad A nL M (pc) lv (st) := fun H locs ls hP hD hS hl => lv_iinc X.1.1 X.1.2.1 hdg hl hq hv hn hl1 (fun ls hl => k H locs ls hP hD hS hl)
theorem j_iadd (X : Amb p m c cc nL s args Ts own D y A) {x z : Int32} (hdg : decode cc pc = .ok (.iadd, 1)) (k : J p l e R s m args below meth c kc ks Q D y ad A nL M (pc + 1) lv (.int (x + z) :: st)) : J p l e R s m args below meth c kc ks Q D y ad A nL M (pc) lv (.int z :: .int x :: st) := fun H locs ls hP hD hS hl => lv_iadd X.1.1 X.1.2.1 hdg (k H locs ls hP hD hS hl)
theorem j_isub (X : Amb p m c cc nL s args Ts own D y A) {x z : Int32} (hdg : decode cc pc = .ok (.isub, 1)) (k : J p l e R s m args below meth c kc ks Q D y ad A nL M (pc + 1) lv (.int (x - z) :: st)) : J p l e R s m args below meth c kc ks Q D y ad A nL M (pc) lv (.int z :: .int x :: st) := fun H locs ls hP hD hS hl => lv_isub X.1.1 X.1.2.1 hdg (k H locs ls hP hD hS hl)
theorem j_imul (X : Amb p m c cc nL s args Ts own D y A) {x z : Int32} (hdg : decode cc pc = .ok (.imul, 1)) (k : J p l e R s m args below meth c kc ks Q D y ad A nL M (pc + 1) lv (.int (x * z) :: st)) : J p l e R s m args below meth c kc ks Q D y ad A nL M (pc) lv (.int z :: .int x :: st) := fun H locs ls hP hD hS hl => lv_imul X.1.1 X.1.2.1 hdg (k H locs ls hP hD hS hl)
theorem j_iand (X : Amb p m c cc nL s args Ts own D y A) {x z : Int32} (hdg : decode cc pc = .ok (.iand, 1)) (k : J p l e R s m args below meth c kc ks Q D y ad A nL M (pc + 1) lv (.int (x &&& z) :: st)) : J p l e R s m args below meth c kc ks Q D y ad A nL M (pc) lv (.int z :: .int x :: st) := fun H locs ls hP hD hS hl => lv_iand X.1.1 X.1.2.1 hdg (k H locs ls hP hD hS hl)
theorem j_ior (X : Amb p m c cc nL s args Ts own D y A) {x z : Int32} (hdg : decode cc pc = .ok (.ior, 1)) (k : J p l e R s m args below meth c kc ks Q D y ad A nL M (pc + 1) lv (.int (x ||| z) :: st)) : J p l e R s m args below meth c kc ks Q D y ad A nL M (pc) lv (.int z :: .int x :: st) := fun H locs ls hP hD hS hl => lv_ior X.1.1 X.1.2.1 hdg (k H locs ls hP hD hS hl)
theorem j_ixor (X : Amb p m c cc nL s args Ts own D y A) {x z : Int32} (hdg : decode cc pc = .ok (.ixor, 1)) (k : J p l e R s m args below meth c kc ks Q D y ad A nL M (pc + 1) lv (.int (x ^^^ z) :: st)) : J p l e R s m args below meth c kc ks Q D y ad A nL M (pc) lv (.int z :: .int x :: st) := fun H locs ls hP hD hS hl => lv_ixor X.1.1 X.1.2.1 hdg (k H locs ls hP hD hS hl)
theorem j_ishl (X : Amb p m c cc nL s args Ts own D y A) {x z : Int32} (hdg : decode cc pc = .ok (.ishl, 1)) (k : J p l e R s m args below meth c kc ks Q D y ad A nL M (pc + 1) lv (.int (x <<< (z &&& 31)) :: st)) : J p l e R s m args below meth c kc ks Q D y ad A nL M (pc) lv (.int z :: .int x :: st) := fun H locs ls hP hD hS hl => lv_ishl X.1.1 X.1.2.1 hdg (k H locs ls hP hD hS hl)
theorem j_ishr (X : Amb p m c cc nL s args Ts own D y A) {x z : Int32} (hdg : decode cc pc = .ok (.ishr, 1)) (k : J p l e R s m args below meth c kc ks Q D y ad A nL M (pc + 1) lv (.int (x >>> (z &&& 31)) :: st)) : J p l e R s m args below meth c kc ks Q D y ad A nL M (pc) lv (.int z :: .int x :: st) := fun H locs ls hP hD hS hl => lv_ishr X.1.1 X.1.2.1 hdg (k H locs ls hP hD hS hl)
theorem j_idiv (X : Amb p m c cc nL s args Ts own D y A) {x z : Int32} (hne : ¬ z = 0) (hdg : decode cc pc = .ok (.idiv, 1)) (k : J p l e R s m args below meth c kc ks Q D y ad A nL M (pc + 1) lv (.int (x / z) :: st)) : J p l e R s m args below meth c kc ks Q D y ad A nL M (pc) lv (.int z :: .int x :: st) := fun H locs ls hP hD hS hl => lv_idiv X.1.1 X.1.2.1 hdg hne (k H locs ls hP hD hS hl)
theorem j_irem (X : Amb p m c cc nL s args Ts own D y A) {x z : Int32} (hne : ¬ z = 0) (hdg : decode cc pc = .ok (.irem, 1)) (k : J p l e R s m args below meth c kc ks Q D y ad A nL M (pc + 1) lv (.int (x - x / z * z) :: st)) : J p l e R s m args below meth c kc ks Q D y ad A nL M (pc) lv (.int z :: .int x :: st) := fun H locs ls hP hD hS hl => lv_irem X.1.1 X.1.2.1 hdg hne (k H locs ls hP hD hS hl)
theorem j_land (X : Amb p m c cc nL s args Ts own D y A) {x z : Int64} (hdg : decode cc pc = .ok (.land, 1)) (k : J p l e R s m args below meth c kc ks Q D y ad A nL M (pc + 1) lv (.long (x &&& z) :: st)) : J p l e R s m args below meth c kc ks Q D y ad A nL M (pc) lv (.long z :: .long x :: st) := fun H locs ls hP hD hS hl => lv_land X.1.1 X.1.2.1 hdg (k H locs ls hP hD hS hl)
theorem j_lor (X : Amb p m c cc nL s args Ts own D y A) {x z : Int64} (hdg : decode cc pc = .ok (.lor, 1)) (k : J p l e R s m args below meth c kc ks Q D y ad A nL M (pc + 1) lv (.long (x ||| z) :: st)) : J p l e R s m args below meth c kc ks Q D y ad A nL M (pc) lv (.long z :: .long x :: st) := fun H locs ls hP hD hS hl => lv_lor X.1.1 X.1.2.1 hdg (k H locs ls hP hD hS hl)
theorem j_ineg (X : Amb p m c cc nL s args Ts own D y A) {x : Int32} (hdg : decode cc pc = .ok (.ineg, 1)) (k : J p l e R s m args below meth c kc ks Q D y ad A nL M (pc + 1) lv (.int (-x) :: st)) : J p l e R s m args below meth c kc ks Q D y ad A nL M (pc) lv (.int x :: st) := fun H locs ls hP hD hS hl => lv_ineg X.1.1 X.1.2.1 hdg (k H locs ls hP hD hS hl)
theorem j_iushr (X : Amb p m c cc nL s args Ts own D y A) {x z : Int32} (hdg : decode cc pc = .ok (.iushr, 1)) (k : J p l e R s m args below meth c kc ks Q D y ad A nL M (pc + 1) lv (.int (x.toUInt32 >>> (z.toUInt32 &&& Int32.toUInt32 31)).toInt32 :: st)) : J p l e R s m args below meth c kc ks Q D y ad A nL M (pc) lv (.int z :: .int x :: st) := fun H locs ls hP hD hS hl => lv_iushr X.1.1 X.1.2.1 hdg rfl (k H locs ls hP hD hS hl)
theorem j_lushr (X : Amb p m c cc nL s args Ts own D y A) {x : Int64} {z : Int32} (hdg : decode cc pc = .ok (.lushr, 1)) (k : J p l e R s m args below meth c kc ks Q D y ad A nL M (pc + 1) lv (.long (x.toUInt64 >>> (z.toInt64.toUInt64 &&& Int64.toUInt64 63)).toInt64 :: st)) : J p l e R s m args below meth c kc ks Q D y ad A nL M (pc) lv (.int z :: .long x :: st) := fun H locs ls hP hD hS hl => lv_lushr X.1.1 X.1.2.1 hdg rfl (k H locs ls hP hD hS hl)
theorem j_lshl (X : Amb p m c cc nL s args Ts own D y A) {x : Int64} {z : Int32} (hdg : decode cc pc = .ok (.lshl, 1)) (k : J p l e R s m args below meth c kc ks Q D y ad A nL M (pc + 1) lv (.long (x <<< (z.toInt64 &&& 63)) :: st)) : J p l e R s m args below meth c kc ks Q D y ad A nL M (pc) lv (.int z :: .long x :: st) := fun H locs ls hP hD hS hl => lv_lshl X.1.1 X.1.2.1 hdg rfl (k H locs ls hP hD hS hl)
theorem j_lshr (X : Amb p m c cc nL s args Ts own D y A) {x : Int64} {z : Int32} (hdg : decode cc pc = .ok (.lshr, 1)) (k : J p l e R s m args below meth c kc ks Q D y ad A nL M (pc + 1) lv (.long (x >>> (z.toInt64 &&& 63)) :: st)) : J p l e R s m args below meth c kc ks Q D y ad A nL M (pc) lv (.int z :: .long x :: st) := fun H locs ls hP hD hS hl => lv_lshr X.1.1 X.1.2.1 hdg rfl (k H locs ls hP hD hS hl)
theorem j_i2l (X : Amb p m c cc nL s args Ts own D y A) {x : Int32} (hdg : decode cc pc = .ok (.i2l, 1)) (k : J p l e R s m args below meth c kc ks Q D y ad A nL M (pc + 1) lv (.long (x.toInt64) :: st)) : J p l e R s m args below meth c kc ks Q D y ad A nL M (pc) lv (.int x :: st) := fun H locs ls hP hD hS hl => lv_i2l X.1.1 X.1.2.1 hdg rfl (k H locs ls hP hD hS hl)
theorem j_l2i (X : Amb p m c cc nL s args Ts own D y A) {x : Int64} (hdg : decode cc pc = .ok (.l2i, 1)) (k : J p l e R s m args below meth c kc ks Q D y ad A nL M (pc + 1) lv (.int (x.toInt32) :: st)) : J p l e R s m args below meth c kc ks Q D y ad A nL M (pc) lv (.long x :: st) := fun H locs ls hP hD hS hl => lv_l2i X.1.1 X.1.2.1 hdg rfl (k H locs ls hP hD hS hl)
theorem j_i2b (X : Amb p m c cc nL s args Ts own D y A) {x : Int32} (hdg : decode cc pc = .ok (.i2b, 1)) (k : J p l e R s m args below meth c kc ks Q D y ad A nL M (pc + 1) lv (.int (x.toInt8.toInt32) :: st)) : J p l e R s m args below meth c kc ks Q D y ad A nL M (pc) lv (.int x :: st) := fun H locs ls hP hD hS hl => lv_i2b X.1.1 X.1.2.1 hdg rfl (k H locs ls hP hD hS hl)
theorem j_i2s (X : Amb p m c cc nL s args Ts own D y A) {x : Int32} (hdg : decode cc pc = .ok (.i2s, 1)) (k : J p l e R s m args below meth c kc ks Q D y ad A nL M (pc + 1) lv (.int (x.toInt16.toInt32) :: st)) : J p l e R s m args below meth c kc ks Q D y ad A nL M (pc) lv (.int x :: st) := fun H locs ls hP hD hS hl => lv_i2s X.1.1 X.1.2.1 hdg rfl (k H locs ls hP hD hS hl)
theorem j_dup (X : Amb p m c cc nL s args Ts own D y A) {va : Value} (hva : va.category = 1) (hdg : decode cc pc = .ok (.dup, 1)) (k : J p l e R s m args below meth c kc ks Q D y ad A nL M (pc + 1) lv (va :: va :: st)) : J p l e R s m args below meth c kc ks Q D y ad A nL M (pc) lv (va :: st) := fun H locs ls hP hD hS hl => lv_dup X.1.1 X.1.2.1 hdg hva (k H locs ls hP hD hS hl)
theorem j_pop (X : Amb p m c cc nL s args Ts own D y A) {va : Value} (hva : va.category = 1) (hdg : decode cc pc = .ok (.pop, 1)) (k : J p l e R s m args below meth c kc ks Q D y ad A nL M (pc + 1) lv (st)) : J p l e R s m args below meth c kc ks Q D y ad A nL M (pc) lv (va :: st) := fun H locs ls hP hD hS hl => lv_pop X.1.1 X.1.2.1 hdg hva (k H locs ls hP hD hS hl)
theorem j_dup_x1 (X : Amb p m c cc nL s args Ts own D y A) {va vb : Value} (hva : va.category = 1) (hvb : vb.category = 1) (hdg : decode cc pc = .ok (.dup_x1, 1)) (k : J p l e R s m args below meth c kc ks Q D y ad A nL M (pc + 1) lv (va :: vb :: va :: st)) : J p l e R s m args below meth c kc ks Q D y ad A nL M (pc) lv (va :: vb :: st) := fun H locs ls hP hD hS hl => lv_dup_x1 X.1.1 X.1.2.1 hdg hva hvb (k H locs ls hP hD hS hl)
theorem j_dup2 (X : Amb p m c cc nL s args Ts own D y A) {va vb : Value} (hva : va.category = 1) (hvb : vb.category = 1) (hdg : decode cc pc = .ok (.dup2, 1)) (k : J p l e R s m args below meth c kc ks Q D y ad A nL M (pc + 1) lv (va :: vb :: va :: vb :: st)) : J p l e R s m args below meth c kc ks Q D y ad A nL M (pc) lv (va :: vb :: st) := fun H locs ls hP hD hS hl => lv_dup2_11 X.1.1 X.1.2.1 hdg hva hvb (k H locs ls hP hD hS hl)
theorem j_goto (X : Amb p m c cc nL s args Ts own D y A) {off : Int} (tgt : Nat) (ht : (pc : Int) + off = (tgt : Int)) (hdg : decode cc pc = .ok (.goto off, 3)) (k : J p l e R s m args below meth c kc ks Q D y ad A nL M (tgt) lv (st)) : J p l e R s m args below meth c kc ks Q D y ad A nL M (pc) lv (st) := fun H locs ls hP hD hS hl => lv_goto X.1.1 X.1.2.1 hdg ht (k H locs ls hP hD hS hl)
theorem j_if_eq (X : Amb p m c cc nL s args Ts own D y A) {x : Int32} {off : Int} (tgt : Nat) (ht : (pc : Int) + off = (tgt : Int)) (hdg : decode cc pc = .ok (.ifCond .eq off, 3)) (kt : x = 0 → J p l e R s m args below meth c kc ks Q D y ad A nL M (tgt) lv (st)) (kf : ¬ x = 0 → J p l e R s m args below meth c kc ks Q D y ad A nL M (pc + 3) lv (st)) : J p l e R s m args below meth c kc ks Q D y ad A nL M (pc) lv (.int x :: st) := fun H locs ls hP hD hS hl => lv_if_eq X.1.1 X.1.2.1 hdg ht (fun h => kt h H locs ls hP hD hS hl) (fun h => kf h H locs ls hP hD hS hl)
theorem j_icmp_eq (X : Amb p m c cc nL s args Ts own D y A) {x z : Int32} {off : Int} (tgt : Nat) (ht : (pc : Int) + off = (tgt : Int)) (hdg : decode cc pc = .ok (.if_icmp .eq off, 3)) (kt : x = z → J p l e R s m args below meth c kc ks Q D y ad A nL M (tgt) lv (st)) (kf : ¬ x = z → J p l e R s m args below meth c kc ks Q D y ad A nL M (pc + 3) lv (st)) : J p l e R s m args below meth c kc ks Q D y ad A nL M (pc) lv (.int z :: .int x :: st) := fun H locs ls hP hD hS hl => lv_icmp_eq X.1.1 X.1.2.1 hdg ht (fun h => kt h H locs ls hP hD hS hl) (fun h => kf h H locs ls hP hD hS hl)
theorem j_if_ne (X : Amb p m c cc nL s args Ts own D y A) {x : Int32} {off : Int} (tgt : Nat) (ht : (pc : Int) + off = (tgt : Int)) (hdg : decode cc pc = .ok (.ifCond .ne off, 3)) (kt : ¬ x = 0 → J p l e R s m args below meth c kc ks Q D y ad A nL M (tgt) lv (st)) (kf : x = 0 → J p l e R s m args below meth c kc ks Q D y ad A nL M (pc + 3) lv (st)) : J p l e R s m args below meth c kc ks Q D y ad A nL M (pc) lv (.int x :: st) := fun H locs ls hP hD hS hl => lv_if_ne X.1.1 X.1.2.1 hdg ht (fun h => kt h H locs ls hP hD hS hl) (fun h => kf h H locs ls hP hD hS hl)
theorem j_icmp_ne (X : Amb p m c cc nL s args Ts own D y A) {x z : Int32} {off : Int} (tgt : Nat) (ht : (pc : Int) + off = (tgt : Int)) (hdg : decode cc pc = .ok (.if_icmp .ne off, 3)) (kt : ¬ x = z → J p l e R s m args below meth c kc ks Q D y ad A nL M (tgt) lv (st)) (kf : x = z → J p l e R s m args below meth c kc ks Q D y ad A nL M (pc + 3) lv (st)) : J p l e R s m args below meth c kc ks Q D y ad A nL M (pc) lv (.int z :: .int x :: st) := fun H locs ls hP hD hS hl => lv_icmp_ne X.1.1 X.1.2.1 hdg ht (fun h => kt h H locs ls hP hD hS hl) (fun h => kf h H locs ls hP hD hS hl)
theorem j_if_lt (X : Amb p m c cc nL s args Ts own D y A) {x : Int32} {off : Int} (tgt : Nat) (ht : (pc : Int) + off = (tgt : Int)) (hdg : decode cc pc = .ok (.ifCond .lt off, 3)) (kt : x < 0 → J p l e R s m args below meth c kc ks Q D y ad A nL M (tgt) lv (st)) (kf : ¬ x < 0 → J p l e R s m args below meth c kc ks Q D y ad A nL M (pc + 3) lv (st)) : J p l e R s m args below meth c kc ks Q D y ad A nL M (pc) lv (.int x :: st) := fun H locs ls hP hD hS hl => lv_if_lt X.1.1 X.1.2.1 hdg ht (fun h => kt h H locs ls hP hD hS hl) (fun h => kf h H locs ls hP hD hS hl)
theorem j_icmp_lt (X : Amb p m c cc nL s args Ts own D y A) {x z : Int32} {off : Int} (tgt : Nat) (ht : (pc : Int) + off = (tgt : Int)) (hdg : decode cc pc = .ok (.if_icmp .lt off, 3)) (kt : x < z → J p l e R s m args below meth c kc ks Q D y ad A nL M (tgt) lv (st)) (kf : ¬ x < z → J p l e R s m args below meth c kc ks Q D y ad A nL M (pc + 3) lv (st)) : J p l e R s m args below meth c kc ks Q D y ad A nL M (pc) lv (.int z :: .int x :: st) := fun H locs ls hP hD hS hl => lv_icmp_lt X.1.1 X.1.2.1 hdg ht (fun h => kt h H locs ls hP hD hS hl) (fun h => kf h H locs ls hP hD hS hl)
theorem j_if_ge (X : Amb p m c cc nL s args Ts own D y A) {x : Int32} {off : Int} (tgt : Nat) (ht : (pc : Int) + off = (tgt : Int)) (hdg : decode cc pc = .ok (.ifCond .ge off, 3)) (kt : 0 ≤ x → J p l e R s m args below meth c kc ks Q D y ad A nL M (tgt) lv (st)) (kf : ¬ 0 ≤ x → J p l e R s m args below meth c kc ks Q D y ad A nL M (pc + 3) lv (st)) : J p l e R s m args below meth c kc ks Q D y ad A nL M (pc) lv (.int x :: st) := fun H locs ls hP hD hS hl => lv_if_ge X.1.1 X.1.2.1 hdg ht (fun h => kt h H locs ls hP hD hS hl) (fun h => kf h H locs ls hP hD hS hl)
theorem j_icmp_ge (X : Amb p m c cc nL s args Ts own D y A) {x z : Int32} {off : Int} (tgt : Nat) (ht : (pc : Int) + off = (tgt : Int)) (hdg : decode cc pc = .ok (.if_icmp .ge off, 3)) (kt : z ≤ x → J p l e R s m args below meth c kc ks Q D y ad A nL M (tgt) lv (st)) (kf : ¬ z ≤ x → J p l e R s m args below meth c kc ks Q D y ad A nL M (pc + 3) lv (st)) : J p l e R s m args below meth c kc ks Q D y ad A nL M (pc) lv (.int z :: .int x :: st) := fun H locs ls hP hD hS hl => lv_icmp_ge X.1.1 X.1.2.1 hdg ht (fun h => kt h H locs ls hP hD hS hl) (fun h => kf h H locs ls hP hD hS hl)
theorem j_if_gt (X : Amb p m c cc nL s args Ts own D y A) {x : Int32} {off : Int} (tgt : Nat) (ht : (pc : Int) + off = (tgt : Int)) (hdg : decode cc pc = .ok (.ifCond .gt off, 3)) (kt : 0 < x → J p l e R s m args below meth c kc ks Q D y ad A nL M (tgt) lv (st)) (kf : ¬ 0 < x → J p l e R s m args below meth c kc ks Q D y ad A nL M (pc + 3) lv (st)) : J p l e R s m args below meth c kc ks Q D y ad A nL M (pc) lv (.int x :: st) := fun H locs ls hP hD hS hl => lv_if_gt X.1.1 X.1.2.1 hdg ht (fun h => kt h H locs ls hP hD hS hl) (fun h => kf h H locs ls hP hD hS hl)
theorem j_icmp_gt (X : Amb p m c cc nL s args Ts own D y A) {x z : Int32} {off : Int} (tgt : Nat) (ht : (pc : Int) + off = (tgt : Int)) (hdg : decode cc pc = .ok (.if_icmp .gt off, 3)) (kt : z < x → J p l e R s m args below meth c kc ks Q D y ad A nL M (tgt) lv (st)) (kf : ¬ z < x → J p l e R s m args below meth c kc ks Q D y ad A nL M (pc + 3) lv (st)) : J p l e R s m args below meth c kc ks Q D y ad A nL M (pc) lv (.int z :: .int x :: st) := fun H locs ls hP hD hS hl => lv_icmp_gt X.1.1 X.1.2.1 hdg ht (fun h => kt h H locs ls hP hD hS hl) (fun h => kf h H locs ls hP hD hS hl)
theorem j_if_le (X : Amb p m c cc nL s args Ts own D y A) {x : Int32} {off : Int} (tgt : Nat) (ht : (pc : Int) + off = (tgt : Int)) (hdg : decode cc pc = .ok (.ifCond .le off, 3)) (kt : x ≤ 0 → J p l e R s m args below meth c kc ks Q D y ad A nL M (tgt) lv (st)) (kf : ¬ x ≤ 0 → J p l e R s m args below meth c kc ks Q D y ad A nL M (pc + 3) lv (st)) : J p l e R s m args below meth c kc ks Q D y ad A nL M (pc) lv (.int x :: st) := fun H locs ls hP hD hS hl => lv_if_le X.1.1 X.1.2.1 hdg ht (fun h => kt h H locs ls hP hD hS hl) (fun h => kf h H locs ls hP hD hS hl)
theorem j_icmp_le (X : Amb p m c cc nL s args Ts own D y A) {x z : Int32} {off : Int} (tgt : Nat) (ht : (pc : Int) + off = (tgt : Int)) (hdg : decode cc pc = .ok (.if_icmp .le off, 3)) (kt : x ≤ z → J p l e R s m args below meth c kc ks Q D y ad A nL M (tgt) lv (st)) (kf : ¬ x ≤ z → J p l e R s m args below meth c kc ks Q D y ad A nL M (pc + 3) lv (st)) : J p l e R s m args below meth c kc ks Q D y ad A nL M (pc) lv (.int z :: .int x :: st) := fun H locs ls hP hD hS hl => lv_icmp_le X.1.1 X.1.2.1 hdg ht (fun h => kt h H locs ls hP hD hS hl) (fun h => kf h H locs ls hP hD hS hl)
theorem j_topi {x : Int32} (k : ∀ v : Int32, v = x → J p l e R s m args below meth c kc ks Q D y ad A nL M (pc) lv (.int v :: st)) : J p l e R s m args below meth c kc ks Q D y ad A nL M (pc) lv (.int x :: st) := k x rfl
theorem j_eqi {x v : Int32} (h : x = v) (k : J p l e R s m args below meth c kc ks Q D y ad A nL M (pc) lv (.int v :: st)) : J p l e R s m args below meth c kc ks Q D y ad A nL M (pc) lv (.int x :: st) := h ▸ k
theorem j_eqr {x v : Nat} (h : x = v) (k : J p l e R s m args below meth c kc ks Q D y ad A nL M (pc) lv (.ref (ad v) :: st)) : J p l e R s m args below meth c kc ks Q D y ad A nL M (pc) lv (.ref (ad x) :: st) := h ▸ k
theorem j_eqM {M1 : Mem} (h : M = M1) (k : J p l e R s m args below meth c kc ks Q D y ad A nL M1 (pc) lv (st)) : J p l e R s m args below meth c kc ks Q D y ad A nL M (pc) lv (st) := h ▸ k
theorem j_lv {lv1 : List (Nat × Value)} (is : List Nat) (hk : lv_pick lv is = lv1) (k : J p l e R s m args below meth c kc ks Q D y ad A nL M (pc) lv1 (st)) : J p l e R s m args below meth c kc ks Q D y ad A nL M (pc) lv (st) := fun H locs ls hP hD hS hl => k H locs ls hP hD hS (lv_sub hl is hk)
theorem j_tsw_in (X : Amb p m c cc nL s args Ts own D y A) {dflt lo hi : Int} {offs : Array Int} {len : Nat} {x : Int32} {off : Int} (tgt : Nat) (v : Int32) (hx : x = v) (h1 : ¬ v.toInt < lo) (h2 : ¬ hi < v.toInt) (ho : offs[(v.toInt - lo).toNat]? = some off) (ht : (pc : Int) + off = (tgt : Int)) (hdg : decode cc pc = .ok (.tableswitch dflt lo hi offs, len)) (k : J p l e R s m args below meth c kc ks Q D y ad A nL M (tgt) lv (st)) : J p l e R s m args below meth c kc ks Q D y ad A nL M (pc) lv (.int x :: st) := by subst hx; exact fun H locs ls hP hD hS hl => lv_tableIn X.1.1 X.1.2.1 hdg h1 h2 ho ht (k H locs ls hP hD hS hl)
theorem j_tsw_out (X : Amb p m c cc nL s args Ts own D y A) {dflt lo hi : Int} {offs : Array Int} {len : Nat} {x : Int32} (tgt : Nat) (h : x.toInt < lo ∨ hi < x.toInt) (ht : (pc : Int) + dflt = (tgt : Int)) (hdg : decode cc pc = .ok (.tableswitch dflt lo hi offs, len)) (k : J p l e R s m args below meth c kc ks Q D y ad A nL M (tgt) lv (st)) : J p l e R s m args below meth c kc ks Q D y ad A nL M (pc) lv (.int x :: st) := fun H locs ls hP hD hS hl => lv_tableOut X.1.1 X.1.2.1 hdg h ht (k H locs ls hP hD hS hl)
theorem j_lsw (X : Amb p m c cc nL s args Ts own D y A) {dflt : Int} {ps : Array (Int × Int)} {len : Nat} {x : Int32} {off : Int} (tgt : Nat) (hp : (ps.toList.zip (ps.toList.drop 1)).all (fun (a, next) => a.1 < next.1) = true) (ho : Op.lookupswitch.offset ps.toList dflt x.toInt = off) (ht : (pc : Int) + off = (tgt : Int)) (hdg : decode cc pc = .ok (.lookupswitch dflt ps, len)) (k : J p l e R s m args below meth c kc ks Q D y ad A nL M (tgt) lv (st)) : J p l e R s m args below meth c kc ks Q D y ad A nL M (pc) lv (.int x :: st) := fun H locs ls hP hD hS hl => lv_lookup X.1.1 X.1.2.1 hdg hp ho ht (k H locs ls hP hD hS hl)
theorem tsw_out (n : Nat) {x : Int32} (hn : n < 1000) (h : ∀ j : Nat, j ≤ n → x ≠ nI j) : x.toInt < 0 ∨ (n : Int) < x.toInt := by
  rcases Int.lt_or_le x.toInt 0 with h0 | h0
  · exact Or.inl h0
  · rcases Int.lt_or_le (n : Int) x.toInt with h1 | h1
    · exact Or.inr h1
    · refine absurd ?_ (h x.toInt.toNat (by omega))
      refine Int32.toInt_inj.mp ?_
      rw [nI_toInt (by omega)]
      omega
theorem j_get (X : Amb p m c cc nL s args Ts own D y A) {ref C : String} {T : u_T} {N ci index i : Nat} {fs : List Value} {v : Value} (hi : i < 92) (hE : wE y ad M i = .inr (ci, fs)) (hc : vwCl[ci]? = some (C, T, N)) (hin : ∀ w ∈ u_ws C T N, w ∈ AW) (k : Nat) (hk : k < N) (hlink : Cond.fieldLink own index ref (T k).2.1 (T k).2.2.1 ∈ AW) (hr : (T k).1 = ref) (hv : fs[k]? = some v) (hdg : decode cc pc = .ok (.getfield index, 3)) (kk : J p l e R s m args below meth c kc ks Q D y ad A nL M (pc + 3) lv (v :: st)) : J p l e R s m args below meth c kc ks Q D y ad A nL M (pc) lv (.ref (ad i) :: st) := fun H locs ls hP hD hS hl => va_get X.1.1 X.1.2.1 X.1.2.2.2.2 (fun w hw => X.2.2.2 w (hin w hw)) X.1.2.2.2.1 X.2.1.1 hP i (PL_at hi hE) hc k hk (X.1.2.2.2.2 _ (X.2.2.2 _ hlink)) (fun x h => by rw [← hr]; exact h) hv hdg (kk H locs ls hP hD hS hl)
theorem j_getN (X : Amb p m c cc nL s args Ts own D y A) {ref C : String} {T : u_T} {N ci index i : Nat} {fs : List Value} {v : Value} (hi : i < 92) (hE : wE y ad M i = .inr (ci, fs)) (hc : vwCl[ci]? = some (C, T, N)) (hin : ∀ w ∈ u_ws C T N, w ∈ AW) (k : Nat) (hk : k < N) {host : String} (hq : (own, index, ref, (T k).2.1, (T k).2.2.1, host) ∈ NWF) (hr : (T k).1 = ref) (hv : fs[k]? = some v) (hdg : decode cc pc = .ok (.getfield index, 3)) (kk : J p l e R s m args below meth c kc ks Q D y ad A nL M (pc + 3) lv (v :: st)) : J p l e R s m args below meth c kc ks Q D y ad A nL M (pc) lv (.ref (ad i) :: st) := fun H locs ls hP hD hS hl => va_getN X.1.1 X.1.2.1 X.1.2.2.2.2 (fun w hw => X.2.2.2 w (hin w hw)) X.1.2.2.2.1 X.2.1.1 hP i (PL_at hi hE) hc k hk (va_Nw.use rfl (X.2.1.2.1 _ hq)) (fun x h => by rw [← hr]; exact h) hv hdg (kk H locs ls hP hD hS hl)
theorem j_put (X : Amb p m c cc nL s args Ts own D y A) {ref C : String} {T : u_T} {N ci index i : Nat} {fs : List Value} {ty : FieldType} {v : Value} (M1 : Mem) (ho : ∀ b, b ≠ i → M1 b = M b) (hi : i < 92) (hE : wE y ad M i = .inr (ci, fs)) (hc : vwCl[ci]? = some (C, T, N)) (hin : ∀ w ∈ u_ws C T N, w ∈ AW) (k : Nat) (hk : k < N) (hE1 : wE y ad M1 i = .inr (ci, fs.set k v)) (ty0 : Nat → FieldType) (hty : ∀ k, k < N → parseFieldDescriptor (T k).2.2.1 = some (ty0 k)) (hnm : ∀ a, a < N → ∀ b, b < N → a ≠ b → (T a).2.1 ≠ (T b).2.1) (hfin : (T k).2.2.2 = false) (hd : parseFieldDescriptor (T k).2.2.1 = some ty) (hn : narrow ty v = v) (hfit : fits ty v = true) (hlen : k < fs.length) (hlink : Cond.fieldLink own index ref (T k).2.1 (T k).2.2.1 ∈ AW) (hr : (T k).1 = ref) (hdg : decode cc pc = .ok (.putfield index, 3)) (kk : J p l e R s m args below meth c kc ks Q D y ad A nL M1 (pc + 3) lv (st)) : J p l e R s m args below meth c kc ks Q D y ad A nL M (pc) lv (v :: .ref (ad i) :: st) := fun H locs ls hP hD hS hl => va_put X.1.1 X.1.2.1 X.1.2.2.2.2 (fun w hw => X.2.2.2 w (hin w hw)) ty0 hty hnm X.1.2.2.2.1 X.2.1.1 hP hD hS i (PL_at hi hE) hc k hk (X.1.2.2.2.2 _ (X.2.2.2 _ hlink)) (fun x h => by rw [← hr]; exact h) hfin hd hn hfit hlen hdg (fun H1 locs1 hP1 hD1 hS1 => kk H1 locs1 ls (by rw [← PL_set hi hE1 ho]; exact hP1) (by rw [← PL_set hi hE1 ho]; exact hD1) hS1 hl)
theorem j_putN (X : Amb p m c cc nL s args Ts own D y A) {ref C : String} {T : u_T} {N ci index i : Nat} {fs : List Value} {ty : FieldType} {v : Value} (M1 : Mem) (ho : ∀ b, b ≠ i → M1 b = M b) (hi : i < 92) (hE : wE y ad M i = .inr (ci, fs)) (hc : vwCl[ci]? = some (C, T, N)) (hin : ∀ w ∈ u_ws C T N, w ∈ AW) (k : Nat) (hk : k < N) (hE1 : wE y ad M1 i = .inr (ci, fs.set k v)) (ty0 : Nat → FieldType) (hty : ∀ k, k < N → parseFieldDescriptor (T k).2.2.1 = some (ty0 k)) (hnm : ∀ a, a < N → ∀ b, b < N → a ≠ b → (T a).2.1 ≠ (T b).2.1) (hfin : (T k).2.2.2 = false) (hd : parseFieldDescriptor (T k).2.2.1 = some ty) (hn : narrow ty v = v) (hfit : fits ty v = true) (hlen : k < fs.length) {host : String} (hq : (own, index, ref, (T k).2.1, (T k).2.2.1, host) ∈ NWF) (hr : (T k).1 = ref) (hdg : decode cc pc = .ok (.putfield index, 3)) (kk : J p l e R s m args below meth c kc ks Q D y ad A nL M1 (pc + 3) lv (st)) : J p l e R s m args below meth c kc ks Q D y ad A nL M (pc) lv (v :: .ref (ad i) :: st) := fun H locs ls hP hD hS hl => va_putN X.1.1 X.1.2.1 X.1.2.2.2.2 (fun w hw => X.2.2.2 w (hin w hw)) ty0 hty hnm X.1.2.2.2.1 X.2.1.1 hP hD hS i (PL_at hi hE) hc k hk (va_Nw.use rfl (X.2.1.2.1 _ hq)) (fun x h => by rw [← hr]; exact h) hfin hd hn hfit hlen hdg (fun H1 locs1 hP1 hD1 hS1 => kk H1 locs1 ls (by rw [← PL_set hi hE1 ho]; exact hP1) (by rw [← PL_set hi hE1 ho]; exact hD1) hS1 hl)
theorem up_o {M : Mem} {i k : Nat} {x : Int32} : ∀ b, b ≠ i → up M i k x b = M b := fun b h => by funext j; exact up_cell h
theorem upA_o {M : Mem} {i : Nat} {f : Nat → Int32} : ∀ b, b ≠ i → upA M i f b = M b := fun b h => upA_cell h
theorem up_upd {M : Mem} {i k : Nat} {x : Int32} : up M i k x i = upd (M i) k x := by funext j; simp [up, upd]
theorem j_iald (X : Amb p m c cc nL s args Ts own D y A) {i : Nat} {x : Int32} (hi : i < 92) (hk : kd i = 9) (hin : vp_in x (ln i)) (hdg : decode cc pc = .ok (.iaload, 1)) (kk : J p l e R s m args below meth c kc ks Q D y ad A nL M (pc + 1) lv (.int (M i x.toNatClampNeg) :: st)) : J p l e R s m args below meth c kc ks Q D y ad A nL M (pc) lv (.int x :: .ref (ad i) :: st) := fun H locs ls hP hD hS hl => va_iald X.1.1 X.1.2.1 X.2.1.1 hP i 0 (PL_at hi (wE_9 M hk)) rfl hin hdg (kk H locs ls hP hD hS hl)
theorem j_iast (X : Amb p m c cc nL s args Ts own D y A) {i : Nat} {x v : Int32} (hi : i < 92) (hk : kd i = 9) (hin : vp_in x (ln i)) (hdg : decode cc pc = .ok (.iastore, 1)) (kk : J p l e R s m args below meth c kc ks Q D y ad A nL (up M i x.toNatClampNeg v) (pc + 1) lv (st)) : J p l e R s m args below meth c kc ks Q D y ad A nL M (pc) lv (.int v :: .int x :: .ref (ad i) :: st) := fun H locs ls hP hD hS hl => va_iast X.1.1 X.1.2.1 X.2.1.1 hP hD hS i 0 (PL_at hi (wE_9 M hk)) rfl hin hdg (fun H1 locs1 hP1 hD1 hS1 => kk H1 locs1 ls (by rw [← PL_set hi (by rw [wE_9 _ hk, up_upd]) up_o]; exact hP1) (by rw [← PL_set hi (by rw [wE_9 _ hk, up_upd]) up_o]; exact hD1) hS1 hl)
theorem j_alen (X : Amb p m c cc nL s args Ts own D y A) {i : Nat} (hi : i < 92) (hk : kd i = 9) (hdg : decode cc pc = .ok (.arraylength, 1)) (kk : J p l e R s m args below meth c kc ks Q D y ad A nL M (pc + 1) lv (.int (Int32.ofNat (ln i)) :: st)) : J p l e R s m args below meth c kc ks Q D y ad A nL M (pc) lv (.ref (ad i) :: st) := fun H locs ls hP hD hS hl => va_alen X.1.1 X.1.2.1 X.2.1.1 hP i 0 (PL_at hi (wE_9 M hk)) rfl rfl hdg (kk H locs ls hP hD hS hl)
theorem j_aald10 (X : Amb p m c cc nL s args Ts own D y A) {i : Nat} {x : Int32} (hi : i < 92) (hk : kd i = 10) (hin : vp_in x (ln i)) (hdg : decode cc pc = .ok (.aaload, 1)) (kk : J p l e R s m args below meth c kc ks Q D y ad A nL M (pc + 1) lv (.ref (ad (rf i x.toNatClampNeg)) :: st)) : J p l e R s m args below meth c kc ks Q D y ad A nL M (pc) lv (.int x :: .ref (ad i) :: st) := fun H locs ls hP hD hS hl => va_aldq X.1.1 X.1.2.1 X.2.1.1 hP i 1 (PL_at hi (wE_10 M hk)) rfl hin hdg (kk H locs ls hP hD hS hl)
theorem j_aald11 (X : Amb p m c cc nL s args Ts own D y A) {i : Nat} {x : Int32} (hi : i < 92) (hk : kd i = 11) (hin : vp_in x (ln i)) (hdg : decode cc pc = .ok (.aaload, 1)) (kk : J p l e R s m args below meth c kc ks Q D y ad A nL M (pc + 1) lv (.ref (ad (rf i x.toNatClampNeg)) :: st)) : J p l e R s m args below meth c kc ks Q D y ad A nL M (pc) lv (.int x :: .ref (ad i) :: st) := fun H locs ls hP hD hS hl => va_aldq X.1.1 X.1.2.1 X.2.1.1 hP i 2 (PL_at hi (wE_11 M hk)) rfl hin hdg (kk H locs ls hP hD hS hl)
theorem j_mmax (X : Amb p m c cc nL s args Ts own D y A) {index : Nat} {x z : Int32} (h1 : Cond.methodLink own index Lib.Math.max.name ∈ AW) (h2 : Cond.static Lib.Math.max.name ∈ AW) (h3 : Cond.initialized "java/lang/Math" ∈ AW) (h4 : Cond.code Lib.Math.max.name Lib.Math.max.code 2 (some .int) ∈ AW) (hf : 1 ≤ R.frames) (hlo : (st.map fun v => v.category).sum + 13 ≤ R.locals) (hc : kc ≤ R.cells) (hs : ks ≤ R.slots) (hdg : decode cc pc = .ok (.invokestatic index, 3)) (kk : J p l e R s m args below meth c kc ks Q D y ad A nL M (pc + 3) lv (.int (if x < z then z else x) :: st)) : J p l e R s m args below meth c kc ks Q D y ad A nL M (pc) lv (.int z :: .int x :: st) := fun H locs ls hP hD hS hl => va_mmax X.1.1 X.1.2.1 (by rw [X.1.2.2.1]; exact hl.1.symm) X.1.2.2.2.1 (X.1.2.2.2.2 _ (X.2.2.2 _ h1)) (X.1.2.2.2.2 _ (X.2.2.2 _ h2)) (X.1.2.2.2.2 _ (X.2.2.2 _ h3)) (X.1.2.2.2.2 _ (X.2.2.2 _ h4)) hf hlo hc hs hdg (kk H locs ls hP hD hS hl)
theorem j_mmin (X : Amb p m c cc nL s args Ts own D y A) {index : Nat} {x z : Int32} (h1 : Cond.methodLink own index Lib.Math.min.name ∈ AW) (h2 : Cond.static Lib.Math.min.name ∈ AW) (h3 : Cond.initialized "java/lang/Math" ∈ AW) (h4 : Cond.code Lib.Math.min.name Lib.Math.min.code 2 (some .int) ∈ AW) (hf : 1 ≤ R.frames) (hlo : (st.map fun v => v.category).sum + 13 ≤ R.locals) (hc : kc ≤ R.cells) (hs : ks ≤ R.slots) (hdg : decode cc pc = .ok (.invokestatic index, 3)) (kk : J p l e R s m args below meth c kc ks Q D y ad A nL M (pc + 3) lv (.int (if z < x then z else x) :: st)) : J p l e R s m args below meth c kc ks Q D y ad A nL M (pc) lv (.int z :: .int x :: st) := fun H locs ls hP hD hS hl => va_mmin X.1.1 X.1.2.1 (by rw [X.1.2.2.1]; exact hl.1.symm) X.1.2.2.2.1 (X.1.2.2.2.2 _ (X.2.2.2 _ h1)) (X.1.2.2.2.2 _ (X.2.2.2 _ h2)) (X.1.2.2.2.2 _ (X.2.2.2 _ h3)) (X.1.2.2.2.2 _ (X.2.2.2 _ h4)) hf hlo hc hs hdg (kk H locs ls hP hD hS hl)
theorem j_copy (X : Amb p m c cc nL s args Ts own D y A) {index i j : Nat} {sp dp n : Int32} (h1 : Cond.methodLink own index arraycopyName ∈ AW) (h2 : Cond.native arraycopyName ∈ AW) (h3 : Cond.static arraycopyName ∈ AW) (h4 : Cond.initialized "java/lang/System" ∈ AW) (hi : i < 92) (hj : j < 92) (hki : kd i = 9) (hkj : kd j = 9) (g1 : ¬ sp < 0) (g2 : ¬ dp < 0) (g3 : ¬ n < 0) (g4 : sp.toNatClampNeg + n.toNatClampNeg ≤ ln i) (g5 : dp.toNatClampNeg + n.toNatClampNeg ≤ ln j) (hf : 1 ≤ R.frames) (hlo : (st.map fun v => v.category).sum + (nativeFrameWords "java/lang/System" "arraycopy" 5 + 11) ≤ R.locals) (hdg : decode cc pc = .ok (.invokestatic index, 3)) (kk : J p l e R s m args below meth c kc ks Q D y ad A nL (upA M j (va_cpy (M i) (M j) sp.toNatClampNeg dp.toNatClampNeg n.toNatClampNeg)) (pc + 3) lv (st)) : J p l e R s m args below meth c kc ks Q D y ad A nL M (pc) lv (.int n :: .int dp :: .ref (ad j) :: .int sp :: .ref (ad i) :: st) := fun H locs ls hP hD hS hl => va_copyi X.1.1 X.1.2.1 (by rw [X.1.2.2.1]; exact hl.1.symm) X.1.2.2.2.1 (X.1.2.2.2.2 _ (X.2.2.2 _ h1)) (X.1.2.2.2.2 _ (X.2.2.2 _ h2)) (X.1.2.2.2.2 _ (X.2.2.2 _ h3)) (X.1.2.2.2.2 _ (X.2.2.2 _ h4)) X.2.1.1 hP hD hS i j 0 0 (PL_at hi (wE_9 M hki)) (PL_at hj (wE_9 M hkj)) rfl rfl rfl g1 g2 g3 g4 g5 (fun _ _ => rfl) hf hlo hdg (fun H1 locs1 hP1 hD1 hS1 => kk H1 locs1 ls (by rw [← PL_set hj (by rw [wE_9 _ hkj, upA_same]) upA_o]; exact hP1) (by rw [← PL_set hj (by rw [wE_9 _ hkj, upA_same]) upA_o]; exact hD1) hS1 hl)
theorem PL_free {A : Nat → Prop} {H0 H : Heap} {locs : List Loc} (hD : va_D A (PL y ad M)) (hS : va_S A H0 H locs) (hA : ∀ q, H0.size ≤ q → A q) : ∀ q, va_A (PL y ad M) H.size q → A q := by
  intro q h
  rcases h with ⟨k, e, h⟩ | h
  · exact hD.2 k _ h
  · exact hA q (Nat.le_trans hS.1 h)
theorem PcM_of {av : List Value} {H : Heap} {U : State} (hT : Tb D y s) (hP : va_P D vwCl (PL y ad M) H) (hD : va_D A (PL y ad M)) (hU : U.heap = H) (hW : s.WarmedH U.vm) : PcM D y ad M H.size av av.toArray U := ⟨rfl, by rw [hU], by rw [hU]; exact hP, hT.warm hW, hD.weaken (fun _ _ _ _ => trivial)⟩
theorem j_callVI (X : Amb p m c cc nL s args Ts own D y A) {nm : MethodName} {bytes : ByteArray} {maxL n nn index : Nat} {ret : Option FieldType} {As : List Value} {post : Int32 → Mem → Prop} {ci i : Nat} {C : String} {T : u_T} {N : Nat} {fs : List Value} (hi : i < 92) (hE : wE y ad M i = .inr (ci, fs)) (hc : vwCl[ci]? = some (C, T, N)) (hinst : Cond.instanceMethod nm ∈ AW) (hsel : Cond.selects C nm nm ∈ AW) (hM : MI l D y ad nm (Cond.code nm bytes maxL ret) n M (.ref (ad i) :: As) post) (hlink : Cond.methodLink own index nm ∈ AW) (hcode : Cond.code nm bytes maxL ret ∈ AW) (hini : Cond.initialized nm.cls ∈ AW) (hd : nm.cls ≠ "java/lang/invoke/MethodHandle" ∧ nm.cls ≠ "java/lang/invoke/VarHandle" ∧ (parseMethodDescriptor nm.desc).map (fun d => d.parameters.length) = some nn) (hR : n + 1 ≤ R.frames ∧ 8 + (maxL + 11) + 60 * n ≤ R.locals) (hn : As.length = nn) (hW : (st.map fun v => v.category).sum ≤ 8) (hf : kc ≤ R.cells ∧ ks ≤ R.slots) (hdg : decode cc pc = .ok (.invokevirtual index, 3)) (kk : ∀ (r : Int32) (M1 : Mem), post r M1 → J p l e R s m args below meth c kc ks Q D y ad A nL M1 (pc + 3) lv (.int r :: st)) : J p l e R s m args below meth c kc ks Q D y ad A nL M (pc) lv (As.reverse ++ .ref (ad i) :: st) := fun H locs ls hP hD hS hl => va_calli (va_runV X.1 (hM H.size) ⟨(callB_of nn X.1.2.2.2.2 (gAW X.2.2.2 hcode) rfl rfl rfl (X.1.2.2.2.2 _ (X.2.2.2 _ hini)) (X.1.2.2.2.2 _ (X.2.2.2 _ hlink)) hd hR), (X.1.2.2.2.2 _ (X.2.2.2 _ hinst)), (X.1.2.2.2.2 _ (X.2.2.2 _ hsel))⟩ ⟨PcM_blind, va_recv X.2.1.1 hP hc (PL_at hi hE), fun U hU hW => PcM_of X.2.1 hP hD hU hW⟩ rfl hn hl.1 rfl (lv_room hW) hdg hf) hS (fun q _ h => PL_free hD hS X.2.2.1 q h) (PL_free hD hS X.2.2.1) (fun r M1 t H1 locs1 ht hvm hp hB hz hk1 hS1 => kk r M1 hp H1 locs1 ls (by rw [← ht]; exact hB) (PL_D hD) hS1 hl)
theorem j_callVNI (X : Amb p m c cc nL s args Ts own D y A) {nm : MethodName} {bytes : ByteArray} {maxL n nn index : Nat} {ret : Option FieldType} {As : List Value} {post : Int32 → Mem → Prop} {host : String} {ci i : Nat} {C : String} {T : u_T} {N : Nat} {fs : List Value} (hi : i < 92) (hE : wE y ad M i = .inr (ci, fs)) (hc : vwCl[ci]? = some (C, T, N)) (hinst : Cond.instanceMethod nm ∈ AW) (hsel : Cond.selects C nm nm ∈ AW) (hM : MI l D y ad nm (Cond.code nm bytes maxL ret) n M (.ref (ad i) :: As) post) (hlink : (own, index, nm, host) ∈ NWM) (hcode : Cond.code nm bytes maxL ret ∈ AW) (hini : Cond.initialized nm.cls ∈ AW) (hd : nm.cls ≠ "java/lang/invoke/MethodHandle" ∧ nm.cls ≠ "java/lang/invoke/VarHandle" ∧ (parseMethodDescriptor nm.desc).map (fun d => d.parameters.length) = some nn) (hR : n + 1 ≤ R.frames ∧ 8 + (maxL + 11) + 60 * n ≤ R.locals) (hn : As.length = nn) (hW : (st.map fun v => v.category).sum ≤ 8) (hf : kc ≤ R.cells ∧ ks ≤ R.slots) (hdg : decode cc pc = .ok (.invokevirtual index, 3)) (kk : ∀ (r : Int32) (M1 : Mem), post r M1 → J p l e R s m args below meth c kc ks Q D y ad A nL M1 (pc + 3) lv (.int r :: st)) : J p l e R s m args below meth c kc ks Q D y ad A nL M (pc) lv (As.reverse ++ .ref (ad i) :: st) := fun H locs ls hP hD hS hl => va_calli (va_runVN X.1 (hM H.size) ⟨(va_cnB nn X.1.2.2.2.2 (gAW X.2.2.2 hcode) rfl rfl rfl (X.2.1.2.2 _ hlink) (X.1.2.2.2.2 _ (X.2.2.2 _ hini)) hd hR), (X.1.2.2.2.2 _ (X.2.2.2 _ hinst)), (X.1.2.2.2.2 _ (X.2.2.2 _ hsel))⟩ ⟨PcM_blind, va_recv X.2.1.1 hP hc (PL_at hi hE), fun U hU hW => PcM_of X.2.1 hP hD hU hW⟩ rfl hn hl.1 rfl (lv_room hW) hdg hf) hS (fun q _ h => PL_free hD hS X.2.2.1 q h) (PL_free hD hS X.2.2.1) (fun r M1 t H1 locs1 ht hvm hp hB hz hk1 hS1 => kk r M1 hp H1 locs1 ls (by rw [← ht]; exact hB) (PL_D hD) hS1 hl)
theorem j_callSI (X : Amb p m c cc nL s args Ts own D y A) {nm : MethodName} {bytes : ByteArray} {maxL n nn index : Nat} {ret : Option FieldType} {As : List Value} {post : Int32 → Mem → Prop} (hstat : Cond.static nm ∈ AW) (hM : MI l D y ad nm (Cond.code nm bytes maxL ret) n M As post) (hlink : Cond.methodLink own index nm ∈ AW) (hcode : Cond.code nm bytes maxL ret ∈ AW) (hini : Cond.initialized nm.cls ∈ AW) (hd : nm.cls ≠ "java/lang/invoke/MethodHandle" ∧ nm.cls ≠ "java/lang/invoke/VarHandle" ∧ (parseMethodDescriptor nm.desc).map (fun d => d.parameters.length) = some nn) (hR : n + 1 ≤ R.frames ∧ 8 + (maxL + 11) + 60 * n ≤ R.locals) (hn : As.length = nn) (hW : (st.map fun v => v.category).sum ≤ 8) (hf : kc ≤ R.cells ∧ ks ≤ R.slots) (hdg : decode cc pc = .ok (.invokestatic index, 3)) (kk : ∀ (r : Int32) (M1 : Mem), post r M1 → J p l e R s m args below meth c kc ks Q D y ad A nL M1 (pc + 3) lv (.int r :: st)) : J p l e R s m args below meth c kc ks Q D y ad A nL M (pc) lv (As.reverse ++ st) := fun H locs ls hP hD hS hl => va_calli (va_runS X.1 (hM H.size) ⟨(callB_of nn X.1.2.2.2.2 (gAW X.2.2.2 hcode) rfl rfl rfl (X.1.2.2.2.2 _ (X.2.2.2 _ hini)) (X.1.2.2.2.2 _ (X.2.2.2 _ hlink)) hd hR), (X.1.2.2.2.2 _ (X.2.2.2 _ hstat))⟩ ⟨PcM_blind, fun U hU hW => PcM_of X.2.1 hP hD hU hW⟩ rfl hn hl.1 rfl (lv_room hW) hdg hf) hS (fun q _ h => PL_free hD hS X.2.2.1 q h) (PL_free hD hS X.2.2.1) (fun r M1 t H1 locs1 ht hvm hp hB hz hk1 hS1 => kk r M1 hp H1 locs1 ls (by rw [← ht]; exact hB) (PL_D hD) hS1 hl)
theorem j_callSNI (X : Amb p m c cc nL s args Ts own D y A) {nm : MethodName} {bytes : ByteArray} {maxL n nn index : Nat} {ret : Option FieldType} {As : List Value} {post : Int32 → Mem → Prop} {host : String} (hstat : Cond.static nm ∈ AW) (hM : MI l D y ad nm (Cond.code nm bytes maxL ret) n M As post) (hlink : (own, index, nm, host) ∈ NWM) (hcode : Cond.code nm bytes maxL ret ∈ AW) (hini : Cond.initialized nm.cls ∈ AW) (hd : nm.cls ≠ "java/lang/invoke/MethodHandle" ∧ nm.cls ≠ "java/lang/invoke/VarHandle" ∧ (parseMethodDescriptor nm.desc).map (fun d => d.parameters.length) = some nn) (hR : n + 1 ≤ R.frames ∧ 8 + (maxL + 11) + 60 * n ≤ R.locals) (hn : As.length = nn) (hW : (st.map fun v => v.category).sum ≤ 8) (hf : kc ≤ R.cells ∧ ks ≤ R.slots) (hdg : decode cc pc = .ok (.invokestatic index, 3)) (kk : ∀ (r : Int32) (M1 : Mem), post r M1 → J p l e R s m args below meth c kc ks Q D y ad A nL M1 (pc + 3) lv (.int r :: st)) : J p l e R s m args below meth c kc ks Q D y ad A nL M (pc) lv (As.reverse ++ st) := fun H locs ls hP hD hS hl => va_calli (va_runSN X.1 (hM H.size) ⟨(va_cnB nn X.1.2.2.2.2 (gAW X.2.2.2 hcode) rfl rfl rfl (X.2.1.2.2 _ hlink) (X.1.2.2.2.2 _ (X.2.2.2 _ hini)) hd hR), (X.1.2.2.2.2 _ (X.2.2.2 _ hstat)), trivial⟩ ⟨PcM_blind, fun U hU hW => PcM_of X.2.1 hP hD hU hW⟩ rfl hn hl.1 rfl (lv_room hW) hdg hf) hS (fun q _ h => PL_free hD hS X.2.2.1 q h) (PL_free hD hS X.2.2.1) (fun r M1 t H1 locs1 ht hvm hp hB hz hk1 hS1 => kk r M1 hp H1 locs1 ls (by rw [← ht]; exact hB) (PL_D hD) hS1 hl)
theorem j_callVV (X : Amb p m c cc nL s args Ts own D y A) {nm : MethodName} {bytes : ByteArray} {maxL n nn index : Nat} {ret : Option FieldType} {As : List Value} {post : Mem → Prop} {ci i : Nat} {C : String} {T : u_T} {N : Nat} {fs : List Value} (hi : i < 92) (hE : wE y ad M i = .inr (ci, fs)) (hc : vwCl[ci]? = some (C, T, N)) (hinst : Cond.instanceMethod nm ∈ AW) (hsel : Cond.selects C nm nm ∈ AW) (hM : MV l D y ad nm (Cond.code nm bytes maxL ret) n M (.ref (ad i) :: As) post) (hlink : Cond.methodLink own index nm ∈ AW) (hcode : Cond.code nm bytes maxL ret ∈ AW) (hini : Cond.initialized nm.cls ∈ AW) (hd : nm.cls ≠ "java/lang/invoke/MethodHandle" ∧ nm.cls ≠ "java/lang/invoke/VarHandle" ∧ (parseMethodDescriptor nm.desc).map (fun d => d.parameters.length) = some nn) (hR : n + 1 ≤ R.frames ∧ 8 + (maxL + 11) + 60 * n ≤ R.locals) (hn : As.length = nn) (hW : (st.map fun v => v.category).sum ≤ 8) (hf : kc ≤ R.cells ∧ ks ≤ R.slots) (hdg : decode cc pc = .ok (.invokevirtual index, 3)) (kk : ∀ M1 : Mem, post M1 → J p l e R s m args below meth c kc ks Q D y ad A nL M1 (pc + 3) lv (st)) : J p l e R s m args below meth c kc ks Q D y ad A nL M (pc) lv (As.reverse ++ .ref (ad i) :: st) := fun H locs ls hP hD hS hl => va_callv (va_runV X.1 (hM H.size) ⟨(callB_of nn X.1.2.2.2.2 (gAW X.2.2.2 hcode) rfl rfl rfl (X.1.2.2.2.2 _ (X.2.2.2 _ hini)) (X.1.2.2.2.2 _ (X.2.2.2 _ hlink)) hd hR), (X.1.2.2.2.2 _ (X.2.2.2 _ hinst)), (X.1.2.2.2.2 _ (X.2.2.2 _ hsel))⟩ ⟨PcM_blind, va_recv X.2.1.1 hP hc (PL_at hi hE), fun U hU hW => PcM_of X.2.1 hP hD hU hW⟩ rfl hn hl.1 rfl (lv_room hW) hdg hf) hS (fun q _ h => PL_free hD hS X.2.2.1 q h) (PL_free hD hS X.2.2.1) (fun M1 t H1 locs1 ht hvm hp hB hz hk1 hS1 => kk M1 hp H1 locs1 ls (by rw [← ht]; exact hB) (PL_D hD) hS1 hl)
theorem j_callVNV (X : Amb p m c cc nL s args Ts own D y A) {nm : MethodName} {bytes : ByteArray} {maxL n nn index : Nat} {ret : Option FieldType} {As : List Value} {post : Mem → Prop} {host : String} {ci i : Nat} {C : String} {T : u_T} {N : Nat} {fs : List Value} (hi : i < 92) (hE : wE y ad M i = .inr (ci, fs)) (hc : vwCl[ci]? = some (C, T, N)) (hinst : Cond.instanceMethod nm ∈ AW) (hsel : Cond.selects C nm nm ∈ AW) (hM : MV l D y ad nm (Cond.code nm bytes maxL ret) n M (.ref (ad i) :: As) post) (hlink : (own, index, nm, host) ∈ NWM) (hcode : Cond.code nm bytes maxL ret ∈ AW) (hini : Cond.initialized nm.cls ∈ AW) (hd : nm.cls ≠ "java/lang/invoke/MethodHandle" ∧ nm.cls ≠ "java/lang/invoke/VarHandle" ∧ (parseMethodDescriptor nm.desc).map (fun d => d.parameters.length) = some nn) (hR : n + 1 ≤ R.frames ∧ 8 + (maxL + 11) + 60 * n ≤ R.locals) (hn : As.length = nn) (hW : (st.map fun v => v.category).sum ≤ 8) (hf : kc ≤ R.cells ∧ ks ≤ R.slots) (hdg : decode cc pc = .ok (.invokevirtual index, 3)) (kk : ∀ M1 : Mem, post M1 → J p l e R s m args below meth c kc ks Q D y ad A nL M1 (pc + 3) lv (st)) : J p l e R s m args below meth c kc ks Q D y ad A nL M (pc) lv (As.reverse ++ .ref (ad i) :: st) := fun H locs ls hP hD hS hl => va_callv (va_runVN X.1 (hM H.size) ⟨(va_cnB nn X.1.2.2.2.2 (gAW X.2.2.2 hcode) rfl rfl rfl (X.2.1.2.2 _ hlink) (X.1.2.2.2.2 _ (X.2.2.2 _ hini)) hd hR), (X.1.2.2.2.2 _ (X.2.2.2 _ hinst)), (X.1.2.2.2.2 _ (X.2.2.2 _ hsel))⟩ ⟨PcM_blind, va_recv X.2.1.1 hP hc (PL_at hi hE), fun U hU hW => PcM_of X.2.1 hP hD hU hW⟩ rfl hn hl.1 rfl (lv_room hW) hdg hf) hS (fun q _ h => PL_free hD hS X.2.2.1 q h) (PL_free hD hS X.2.2.1) (fun M1 t H1 locs1 ht hvm hp hB hz hk1 hS1 => kk M1 hp H1 locs1 ls (by rw [← ht]; exact hB) (PL_D hD) hS1 hl)
theorem j_callSV (X : Amb p m c cc nL s args Ts own D y A) {nm : MethodName} {bytes : ByteArray} {maxL n nn index : Nat} {ret : Option FieldType} {As : List Value} {post : Mem → Prop} (hstat : Cond.static nm ∈ AW) (hM : MV l D y ad nm (Cond.code nm bytes maxL ret) n M As post) (hlink : Cond.methodLink own index nm ∈ AW) (hcode : Cond.code nm bytes maxL ret ∈ AW) (hini : Cond.initialized nm.cls ∈ AW) (hd : nm.cls ≠ "java/lang/invoke/MethodHandle" ∧ nm.cls ≠ "java/lang/invoke/VarHandle" ∧ (parseMethodDescriptor nm.desc).map (fun d => d.parameters.length) = some nn) (hR : n + 1 ≤ R.frames ∧ 8 + (maxL + 11) + 60 * n ≤ R.locals) (hn : As.length = nn) (hW : (st.map fun v => v.category).sum ≤ 8) (hf : kc ≤ R.cells ∧ ks ≤ R.slots) (hdg : decode cc pc = .ok (.invokestatic index, 3)) (kk : ∀ M1 : Mem, post M1 → J p l e R s m args below meth c kc ks Q D y ad A nL M1 (pc + 3) lv (st)) : J p l e R s m args below meth c kc ks Q D y ad A nL M (pc) lv (As.reverse ++ st) := fun H locs ls hP hD hS hl => va_callv (va_runS X.1 (hM H.size) ⟨(callB_of nn X.1.2.2.2.2 (gAW X.2.2.2 hcode) rfl rfl rfl (X.1.2.2.2.2 _ (X.2.2.2 _ hini)) (X.1.2.2.2.2 _ (X.2.2.2 _ hlink)) hd hR), (X.1.2.2.2.2 _ (X.2.2.2 _ hstat))⟩ ⟨PcM_blind, fun U hU hW => PcM_of X.2.1 hP hD hU hW⟩ rfl hn hl.1 rfl (lv_room hW) hdg hf) hS (fun q _ h => PL_free hD hS X.2.2.1 q h) (PL_free hD hS X.2.2.1) (fun M1 t H1 locs1 ht hvm hp hB hz hk1 hS1 => kk M1 hp H1 locs1 ls (by rw [← ht]; exact hB) (PL_D hD) hS1 hl)
theorem j_callSNV (X : Amb p m c cc nL s args Ts own D y A) {nm : MethodName} {bytes : ByteArray} {maxL n nn index : Nat} {ret : Option FieldType} {As : List Value} {post : Mem → Prop} {host : String} (hstat : Cond.static nm ∈ AW) (hM : MV l D y ad nm (Cond.code nm bytes maxL ret) n M As post) (hlink : (own, index, nm, host) ∈ NWM) (hcode : Cond.code nm bytes maxL ret ∈ AW) (hini : Cond.initialized nm.cls ∈ AW) (hd : nm.cls ≠ "java/lang/invoke/MethodHandle" ∧ nm.cls ≠ "java/lang/invoke/VarHandle" ∧ (parseMethodDescriptor nm.desc).map (fun d => d.parameters.length) = some nn) (hR : n + 1 ≤ R.frames ∧ 8 + (maxL + 11) + 60 * n ≤ R.locals) (hn : As.length = nn) (hW : (st.map fun v => v.category).sum ≤ 8) (hf : kc ≤ R.cells ∧ ks ≤ R.slots) (hdg : decode cc pc = .ok (.invokestatic index, 3)) (kk : ∀ M1 : Mem, post M1 → J p l e R s m args below meth c kc ks Q D y ad A nL M1 (pc + 3) lv (st)) : J p l e R s m args below meth c kc ks Q D y ad A nL M (pc) lv (As.reverse ++ st) := fun H locs ls hP hD hS hl => va_callv (va_runSN X.1 (hM H.size) ⟨(va_cnB nn X.1.2.2.2.2 (gAW X.2.2.2 hcode) rfl rfl rfl (X.2.1.2.2 _ hlink) (X.1.2.2.2.2 _ (X.2.2.2 _ hini)) hd hR), (X.1.2.2.2.2 _ (X.2.2.2 _ hstat)), trivial⟩ ⟨PcM_blind, fun U hU hW => PcM_of X.2.1 hP hD hU hW⟩ rfl hn hl.1 rfl (lv_room hW) hdg hf) hS (fun q _ h => PL_free hD hS X.2.2.1 q h) (PL_free hD hS X.2.2.1) (fun M1 t H1 locs1 ht hvm hp hB hz hk1 hS1 => kk M1 hp H1 locs1 ls (by rw [← ht]; exact hB) (PL_D hD) hS1 hl)
theorem j_callVR (X : Amb p m c cc nL s args Ts own D y A) {nm : MethodName} {bytes : ByteArray} {maxL n nn index : Nat} {ret : Option FieldType} {As : List Value} {post : Nat → Mem → Prop} {ci i : Nat} {C : String} {T : u_T} {N : Nat} {fs : List Value} (hi : i < 92) (hE : wE y ad M i = .inr (ci, fs)) (hc : vwCl[ci]? = some (C, T, N)) (hinst : Cond.instanceMethod nm ∈ AW) (hsel : Cond.selects C nm nm ∈ AW) (hM : MR l D y ad nm (Cond.code nm bytes maxL ret) n M (.ref (ad i) :: As) post) (hlink : Cond.methodLink own index nm ∈ AW) (hcode : Cond.code nm bytes maxL ret ∈ AW) (hini : Cond.initialized nm.cls ∈ AW) (hd : nm.cls ≠ "java/lang/invoke/MethodHandle" ∧ nm.cls ≠ "java/lang/invoke/VarHandle" ∧ (parseMethodDescriptor nm.desc).map (fun d => d.parameters.length) = some nn) (hR : n + 1 ≤ R.frames ∧ 8 + (maxL + 11) + 60 * n ≤ R.locals) (hn : As.length = nn) (hW : (st.map fun v => v.category).sum ≤ 8) (hf : kc ≤ R.cells ∧ ks ≤ R.slots) (hdg : decode cc pc = .ok (.invokevirtual index, 3)) (kk : ∀ (r : Nat) (M1 : Mem), post r M1 → J p l e R s m args below meth c kc ks Q D y ad A nL M1 (pc + 3) lv (.ref (ad r) :: st)) : J p l e R s m args below meth c kc ks Q D y ad A nL M (pc) lv (As.reverse ++ .ref (ad i) :: st) := fun H locs ls hP hD hS hl => va_callr (va_runV X.1 (hM H.size) ⟨(callB_of nn X.1.2.2.2.2 (gAW X.2.2.2 hcode) rfl rfl rfl (X.1.2.2.2.2 _ (X.2.2.2 _ hini)) (X.1.2.2.2.2 _ (X.2.2.2 _ hlink)) hd hR), (X.1.2.2.2.2 _ (X.2.2.2 _ hinst)), (X.1.2.2.2.2 _ (X.2.2.2 _ hsel))⟩ ⟨PcM_blind, va_recv X.2.1.1 hP hc (PL_at hi hE), fun U hU hW => PcM_of X.2.1 hP hD hU hW⟩ rfl hn hl.1 rfl (lv_room hW) hdg hf) hS (fun q _ h => PL_free hD hS X.2.2.1 q h) (PL_free hD hS X.2.2.1) (fun u ra t H1 locs1 ht hvm hp hB hz hk1 hS1 => by rw [hB.1]; exact kk u.1 u.2 hp H1 locs1 ls (by rw [← ht]; exact hB.2) (PL_D hD) hS1 hl)
theorem j_callVNR (X : Amb p m c cc nL s args Ts own D y A) {nm : MethodName} {bytes : ByteArray} {maxL n nn index : Nat} {ret : Option FieldType} {As : List Value} {post : Nat → Mem → Prop} {host : String} {ci i : Nat} {C : String} {T : u_T} {N : Nat} {fs : List Value} (hi : i < 92) (hE : wE y ad M i = .inr (ci, fs)) (hc : vwCl[ci]? = some (C, T, N)) (hinst : Cond.instanceMethod nm ∈ AW) (hsel : Cond.selects C nm nm ∈ AW) (hM : MR l D y ad nm (Cond.code nm bytes maxL ret) n M (.ref (ad i) :: As) post) (hlink : (own, index, nm, host) ∈ NWM) (hcode : Cond.code nm bytes maxL ret ∈ AW) (hini : Cond.initialized nm.cls ∈ AW) (hd : nm.cls ≠ "java/lang/invoke/MethodHandle" ∧ nm.cls ≠ "java/lang/invoke/VarHandle" ∧ (parseMethodDescriptor nm.desc).map (fun d => d.parameters.length) = some nn) (hR : n + 1 ≤ R.frames ∧ 8 + (maxL + 11) + 60 * n ≤ R.locals) (hn : As.length = nn) (hW : (st.map fun v => v.category).sum ≤ 8) (hf : kc ≤ R.cells ∧ ks ≤ R.slots) (hdg : decode cc pc = .ok (.invokevirtual index, 3)) (kk : ∀ (r : Nat) (M1 : Mem), post r M1 → J p l e R s m args below meth c kc ks Q D y ad A nL M1 (pc + 3) lv (.ref (ad r) :: st)) : J p l e R s m args below meth c kc ks Q D y ad A nL M (pc) lv (As.reverse ++ .ref (ad i) :: st) := fun H locs ls hP hD hS hl => va_callr (va_runVN X.1 (hM H.size) ⟨(va_cnB nn X.1.2.2.2.2 (gAW X.2.2.2 hcode) rfl rfl rfl (X.2.1.2.2 _ hlink) (X.1.2.2.2.2 _ (X.2.2.2 _ hini)) hd hR), (X.1.2.2.2.2 _ (X.2.2.2 _ hinst)), (X.1.2.2.2.2 _ (X.2.2.2 _ hsel))⟩ ⟨PcM_blind, va_recv X.2.1.1 hP hc (PL_at hi hE), fun U hU hW => PcM_of X.2.1 hP hD hU hW⟩ rfl hn hl.1 rfl (lv_room hW) hdg hf) hS (fun q _ h => PL_free hD hS X.2.2.1 q h) (PL_free hD hS X.2.2.1) (fun u ra t H1 locs1 ht hvm hp hB hz hk1 hS1 => by rw [hB.1]; exact kk u.1 u.2 hp H1 locs1 ls (by rw [← ht]; exact hB.2) (PL_D hD) hS1 hl)
theorem j_callSR (X : Amb p m c cc nL s args Ts own D y A) {nm : MethodName} {bytes : ByteArray} {maxL n nn index : Nat} {ret : Option FieldType} {As : List Value} {post : Nat → Mem → Prop} (hstat : Cond.static nm ∈ AW) (hM : MR l D y ad nm (Cond.code nm bytes maxL ret) n M As post) (hlink : Cond.methodLink own index nm ∈ AW) (hcode : Cond.code nm bytes maxL ret ∈ AW) (hini : Cond.initialized nm.cls ∈ AW) (hd : nm.cls ≠ "java/lang/invoke/MethodHandle" ∧ nm.cls ≠ "java/lang/invoke/VarHandle" ∧ (parseMethodDescriptor nm.desc).map (fun d => d.parameters.length) = some nn) (hR : n + 1 ≤ R.frames ∧ 8 + (maxL + 11) + 60 * n ≤ R.locals) (hn : As.length = nn) (hW : (st.map fun v => v.category).sum ≤ 8) (hf : kc ≤ R.cells ∧ ks ≤ R.slots) (hdg : decode cc pc = .ok (.invokestatic index, 3)) (kk : ∀ (r : Nat) (M1 : Mem), post r M1 → J p l e R s m args below meth c kc ks Q D y ad A nL M1 (pc + 3) lv (.ref (ad r) :: st)) : J p l e R s m args below meth c kc ks Q D y ad A nL M (pc) lv (As.reverse ++ st) := fun H locs ls hP hD hS hl => va_callr (va_runS X.1 (hM H.size) ⟨(callB_of nn X.1.2.2.2.2 (gAW X.2.2.2 hcode) rfl rfl rfl (X.1.2.2.2.2 _ (X.2.2.2 _ hini)) (X.1.2.2.2.2 _ (X.2.2.2 _ hlink)) hd hR), (X.1.2.2.2.2 _ (X.2.2.2 _ hstat))⟩ ⟨PcM_blind, fun U hU hW => PcM_of X.2.1 hP hD hU hW⟩ rfl hn hl.1 rfl (lv_room hW) hdg hf) hS (fun q _ h => PL_free hD hS X.2.2.1 q h) (PL_free hD hS X.2.2.1) (fun u ra t H1 locs1 ht hvm hp hB hz hk1 hS1 => by rw [hB.1]; exact kk u.1 u.2 hp H1 locs1 ls (by rw [← ht]; exact hB.2) (PL_D hD) hS1 hl)
theorem j_callSNR (X : Amb p m c cc nL s args Ts own D y A) {nm : MethodName} {bytes : ByteArray} {maxL n nn index : Nat} {ret : Option FieldType} {As : List Value} {post : Nat → Mem → Prop} {host : String} (hstat : Cond.static nm ∈ AW) (hM : MR l D y ad nm (Cond.code nm bytes maxL ret) n M As post) (hlink : (own, index, nm, host) ∈ NWM) (hcode : Cond.code nm bytes maxL ret ∈ AW) (hini : Cond.initialized nm.cls ∈ AW) (hd : nm.cls ≠ "java/lang/invoke/MethodHandle" ∧ nm.cls ≠ "java/lang/invoke/VarHandle" ∧ (parseMethodDescriptor nm.desc).map (fun d => d.parameters.length) = some nn) (hR : n + 1 ≤ R.frames ∧ 8 + (maxL + 11) + 60 * n ≤ R.locals) (hn : As.length = nn) (hW : (st.map fun v => v.category).sum ≤ 8) (hf : kc ≤ R.cells ∧ ks ≤ R.slots) (hdg : decode cc pc = .ok (.invokestatic index, 3)) (kk : ∀ (r : Nat) (M1 : Mem), post r M1 → J p l e R s m args below meth c kc ks Q D y ad A nL M1 (pc + 3) lv (.ref (ad r) :: st)) : J p l e R s m args below meth c kc ks Q D y ad A nL M (pc) lv (As.reverse ++ st) := fun H locs ls hP hD hS hl => va_callr (va_runSN X.1 (hM H.size) ⟨(va_cnB nn X.1.2.2.2.2 (gAW X.2.2.2 hcode) rfl rfl rfl (X.2.1.2.2 _ hlink) (X.1.2.2.2.2 _ (X.2.2.2 _ hini)) hd hR), (X.1.2.2.2.2 _ (X.2.2.2 _ hstat)), trivial⟩ ⟨PcM_blind, fun U hU hW => PcM_of X.2.1 hP hD hU hW⟩ rfl hn hl.1 rfl (lv_room hW) hdg hf) hS (fun q _ h => PL_free hD hS X.2.2.1 q h) (PL_free hD hS X.2.2.1) (fun u ra t H1 locs1 ht hvm hp hB hz hk1 hS1 => by rw [hB.1]; exact kk u.1 u.2 hp H1 locs1 ls (by rw [← ht]; exact hB.2) (PL_D hD) hS1 hl)
theorem copy0 {i j : Nat} : upA M j (va_cpy (M i) (M j) (0 : Int32).toNatClampNeg (0 : Int32).toNatClampNeg (0 : Int32).toNatClampNeg) = M := by
  funext b k
  by_cases h : b = j
  · subst h
    show (if b = b then va_cpy (M i) (M b) 0 0 0 else M b) k = M b k
    simp [va_cpy]
  · simp [upA, h]
end JJ
section JE
variable {l : Launch} {D : va_G} {y : wY} {ad : Nat → Nat} {M : Mem}
/-- the end of a method, by kind of answer -/
abbrev QI (post : Int32 → Mem → Prop) (D : va_G) (y : wY) (ad : Nat → Nat) (M0 : Mem) (s : State) (args : Array Value) (below : List Frame) : State → Prop := MQ below (va_Qi post (fun M' t => va_P D vwCl (PL y ad M') t.heap) (va_A (PL y ad M0) s.heap.size)) args s 0 0 (va_A (PL y ad M0) s.heap.size)
abbrev QV (post : Mem → Prop) (D : va_G) (y : wY) (ad : Nat → Nat) (M0 : Mem) (s : State) (args : Array Value) (below : List Frame) : State → Prop := MQ below (va_Qv post (fun M' t => va_P D vwCl (PL y ad M') t.heap) (va_A (PL y ad M0) s.heap.size)) args s 0 0 (va_A (PL y ad M0) s.heap.size)
abbrev QR (post : Nat → Mem → Prop) (D : va_G) (y : wY) (ad : Nat → Nat) (M0 : Mem) (s : State) (args : Array Value) (below : List Frame) : State → Prop := MQ below (va_Qr (fun u : Nat × Mem => post u.1 u.2) (fun u a t => a = ad u.1 ∧ va_P D vwCl (PL y ad u.2) t.heap) (va_A (PL y ad M0) s.heap.size)) args s 0 0 (va_A (PL y ad M0) s.heap.size)
theorem j_iret {p : Program} {e : Env} {R : Room} {s : State} {m : MethodId} {args : Array Value} {below : List Frame} {meth : Method} {c : Code} {M0 : Mem} {nL pc : Nat} {lv : List (Nat × Value)} {cc : ByteArray} {Ts : List Cond} {own : String} {post : Int32 → Mem → Prop} {v : Int32} (X : Amb p m c cc nL s args Ts own D y (va_A (PL y ad M0) s.heap.size)) (hr : meth.sig.returnType = some .int) (hlocks : meth.locks = false) (hdg : decode cc pc = .ok (.ireturn, 1)) (hp : post v M) : J p l e R s m args below meth c 0 0 (QI post D y ad M0 s args below) D y ad (va_A (PL y ad M0) s.heap.size) nL M pc lv [.int v] :=
  fun H locs ls hP hD hS hl => W.iret X.1.1 X.1.2.1 hr (fun t ht hW => ⟨⟨v, M, rfl, hp, by show va_P D vwCl (PL y ad M) t.heap; rw [ht]; exact hP⟩, hS.F ht⟩) hS.2.2 hdg hlocks
theorem j_zret {p : Program} {e : Env} {R : Room} {s : State} {m : MethodId} {args : Array Value} {below : List Frame} {meth : Method} {c : Code} {M0 : Mem} {nL pc : Nat} {lv : List (Nat × Value)} {cc : ByteArray} {Ts : List Cond} {own : String} {post : Int32 → Mem → Prop} {v : Int32} (X : Amb p m c cc nL s args Ts own D y (va_A (PL y ad M0) s.heap.size)) (hr : meth.sig.returnType = some .boolean) (hlocks : meth.locks = false) (hz : v = 0 ∨ v = 1) (hdg : decode cc pc = .ok (.ireturn, 1)) (hp : post v M) : J p l e R s m args below meth c 0 0 (QI post D y ad M0 s args below) D y ad (va_A (PL y ad M0) s.heap.size) nL M pc lv [.int v] :=
  fun H locs ls hP hD hS hl => W.zret X.1.1 X.1.2.1 hr (by rcases hz with rfl | rfl <;> rfl) (fun t ht hW => ⟨⟨v, M, rfl, hp, by show va_P D vwCl (PL y ad M) t.heap; rw [ht]; exact hP⟩, hS.F ht⟩) hS.2.2 hdg hlocks
theorem j_vret {p : Program} {e : Env} {R : Room} {s : State} {m : MethodId} {args : Array Value} {below : List Frame} {meth : Method} {c : Code} {M0 : Mem} {nL pc : Nat} {lv : List (Nat × Value)} {cc : ByteArray} {Ts : List Cond} {own : String} {post : Mem → Prop} (X : Amb p m c cc nL s args Ts own D y (va_A (PL y ad M0) s.heap.size)) (hr : meth.sig.returnType = none) (hlocks : meth.locks = false) (hdg : decode cc pc = .ok (.return_, 1)) (hp : post M) : J p l e R s m args below meth c 0 0 (QV post D y ad M0 s args below) D y ad (va_A (PL y ad M0) s.heap.size) nL M pc lv [] :=
  fun H locs ls hP hD hS hl => W.vret X.1.1 X.1.2.1 hr (fun t ht hW => ⟨⟨M, rfl, hp, by show va_P D vwCl (PL y ad M) t.heap; rw [ht]; exact hP⟩, hS.F ht⟩) hS.2.2 hdg hlocks
theorem j_aret {p : Program} {e : Env} {R : Room} {s : State} {m : MethodId} {args : Array Value} {below : List Frame} {meth : Method} {c : Code} {M0 : Mem} {nL pc : Nat} {lv : List (Nat × Value)} {cc : ByteArray} {Ts : List Cond} {own : String} {post : Nat → Mem → Prop} {v : Nat} {o : String} (X : Amb p m c cc nL s args Ts own D y (va_A (PL y ad M0) s.heap.size)) (hr : meth.sig.returnType = some (.object o)) (hlocks : meth.locks = false) (hdg : decode cc pc = .ok (.areturn, 1)) (hp : post v M) : J p l e R s m args below meth c 0 0 (QR post D y ad M0 s args below) D y ad (va_A (PL y ad M0) s.heap.size) nL M pc lv [.ref (ad v)] :=
  fun H locs ls hP hD hS hl => W.aret X.1.1 X.1.2.1 hr (Or.inl ⟨o, rfl⟩) (Or.inr ⟨_, rfl⟩) (fun t ht hW => ⟨⟨(v, M), ad v, rfl, hp, rfl, by show va_P D vwCl (PL y ad M) t.heap; rw [ht]; exact hP⟩, hS.F ht⟩) hS.2.2 hdg hlocks
theorem MI_of {nm : MethodName} {cc : ByteArray} {maxL n : Nat} {ret : Option FieldType} {av : List Value} {post : Int32 → Mem → Prop} (hy : plainName nm.cls = true) (hlen : (lg_sl av).length ≤ maxL)
    (body : ∀ (p : Program) (e : Env) (s : State) (m : MethodId) (args : Array Value) (below : List Frame) (meth : Method) (c : Code), Amb p m c cc maxL s args (wm (Cond.code nm cc maxL ret)) nm.cls D y (va_A (PL y ad M) s.heap.size) → meth.sig.returnType = ret → meth.locks = false → J p l e (rmN n) s m args below meth c 0 0 (QI post D y ad M s args below) D y ad (va_A (PL y ad M) s.heap.size) maxL M 0 (lv_args 0 av) []) :
    MI l D y ad nm (Cond.code nm cc maxL ret) n M av post := by
  intro sz
  refine Met.ofW (cc := cc) (maxL := maxL) (ret := ret) hy rfl ?_
  intro p e s m args below meth c s₁ B hml hv
  obtain ⟨rfl, hsz, hP, hT, hD0⟩ := hv
  subst hsz
  rw [lg_entry_eq]
  exact body p e s m _ below meth c ⟨⟨B.exec, B.bytes, hml, findClass_of_methodNamed B.named, atoms_spec (ws := wm (Cond.code nm cc maxL ret)) B.pre⟩, hT, fun q h => Or.inr h, fun w h => List.mem_cons_of_mem _ h⟩ B.returns B.notSynchronized s.heap [] _ hP hD0.self va_S.rf (lv_entry av hlen)
theorem MV_of {nm : MethodName} {cc : ByteArray} {maxL n : Nat} {ret : Option FieldType} {av : List Value} {post : Mem → Prop} (hy : plainName nm.cls = true) (hlen : (lg_sl av).length ≤ maxL)
    (body : ∀ (p : Program) (e : Env) (s : State) (m : MethodId) (args : Array Value) (below : List Frame) (meth : Method) (c : Code), Amb p m c cc maxL s args (wm (Cond.code nm cc maxL ret)) nm.cls D y (va_A (PL y ad M) s.heap.size) → meth.sig.returnType = ret → meth.locks = false → J p l e (rmN n) s m args below meth c 0 0 (QV post D y ad M s args below) D y ad (va_A (PL y ad M) s.heap.size) maxL M 0 (lv_args 0 av) []) :
    MV l D y ad nm (Cond.code nm cc maxL ret) n M av post := by
  intro sz
  refine Met.ofW (cc := cc) (maxL := maxL) (ret := ret) hy rfl ?_
  intro p e s m args below meth c s₁ B hml hv
  obtain ⟨rfl, hsz, hP, hT, hD0⟩ := hv
  subst hsz
  rw [lg_entry_eq]
  exact body p e s m _ below meth c ⟨⟨B.exec, B.bytes, hml, findClass_of_methodNamed B.named, atoms_spec (ws := wm (Cond.code nm cc maxL ret)) B.pre⟩, hT, fun q h => Or.inr h, fun w h => List.mem_cons_of_mem _ h⟩ B.returns B.notSynchronized s.heap [] _ hP hD0.self va_S.rf (lv_entry av hlen)
theorem MR_of {nm : MethodName} {cc : ByteArray} {maxL n : Nat} {ret : Option FieldType} {av : List Value} {post : Nat → Mem → Prop} (hy : plainName nm.cls = true) (hlen : (lg_sl av).length ≤ maxL)
    (body : ∀ (p : Program) (e : Env) (s : State) (m : MethodId) (args : Array Value) (below : List Frame) (meth : Method) (c : Code), Amb p m c cc maxL s args (wm (Cond.code nm cc maxL ret)) nm.cls D y (va_A (PL y ad M) s.heap.size) → meth.sig.returnType = ret → meth.locks = false → J p l e (rmN n) s m args below meth c 0 0 (QR post D y ad M s args below) D y ad (va_A (PL y ad M) s.heap.size) maxL M 0 (lv_args 0 av) []) :
    MR l D y ad nm (Cond.code nm cc maxL ret) n M av post := by
  intro sz
  refine Met.ofW (cc := cc) (maxL := maxL) (ret := ret) hy rfl ?_
  intro p e s m args below meth c s₁ B hml hv
  obtain ⟨rfl, hsz, hP, hT, hD0⟩ := hv
  subst hsz
  rw [lg_entry_eq]
  exact body p e s m _ below meth c ⟨⟨B.exec, B.bytes, hml, findClass_of_methodNamed B.named, atoms_spec (ws := wm (Cond.code nm cc maxL ret)) B.pre⟩, hT, fun q h => Or.inr h, fun w h => List.mem_cons_of_mem _ h⟩ B.returns B.notSynchronized s.heap [] _ hP hD0.self va_S.rf (lv_entry av hlen)
end JE
end
section
theorem dX7_isWithin_0 : decode cX7_isWithin 0 = .ok (.iload_n 0, 1) := by decide +kernel
theorem dX7_isWithin_1 : decode cX7_isWithin 1 = .ok (.iload_n 1, 1) := by decide +kernel
theorem dX7_isWithin_2 : decode cX7_isWithin 2 = .ok (.if_icmp .lt 12, 3) := by decide +kernel
theorem dX7_isWithin_14 : decode cX7_isWithin 14 = .ok (.iconst 0, 1) := by decide +kernel
theorem dX7_isWithin_15 : decode cX7_isWithin 15 = .ok (.ireturn, 1) := by decide +kernel
theorem dX7_isWithin_5 : decode cX7_isWithin 5 = .ok (.iload_n 0, 1) := by decide +kernel
theorem dX7_isWithin_6 : decode cX7_isWithin 6 = .ok (.iload_n 2, 1) := by decide +kernel
theorem dX7_isWithin_7 : decode cX7_isWithin 7 = .ok (.if_icmp .gt 7, 3) := by decide +kernel
theorem dX7_isWithin_10 : decode cX7_isWithin 10 = .ok (.iconst 1, 1) := by decide +kernel
theorem dX7_isWithin_11 : decode cX7_isWithin 11 = .ok (.goto 4, 3) := by decide +kernel
theorem dX8_in_0 : decode cX8_in 0 = .ok (.iload_n 0, 1) := by decide +kernel
theorem dX8_in_1 : decode cX8_in 1 = .ok (.iload_n 1, 1) := by decide +kernel
theorem dX8_in_2 : decode cX8_in 2 = .ok (.if_icmp .lt 12, 3) := by decide +kernel
theorem dX8_in_14 : decode cX8_in 14 = .ok (.iconst 0, 1) := by decide +kernel
theorem dX8_in_15 : decode cX8_in 15 = .ok (.ireturn, 1) := by decide +kernel
theorem dX8_in_5 : decode cX8_in 5 = .ok (.iload_n 0, 1) := by decide +kernel
theorem dX8_in_6 : decode cX8_in 6 = .ok (.iload_n 2, 1) := by decide +kernel
theorem dX8_in_7 : decode cX8_in 7 = .ok (.if_icmp .gt 7, 3) := by decide +kernel
theorem dX8_in_10 : decode cX8_in 10 = .ok (.iconst 1, 1) := by decide +kernel
theorem dX8_in_11 : decode cX8_in 11 = .ok (.goto 4, 3) := by decide +kernel
theorem dX7_refuse_0 : decode cX7_refuse 0 = .ok (.aload_n 0, 1) := by decide +kernel
theorem dX7_refuse_1 : decode cX7_refuse 1 = .ok (.getfield 55, 3) := by decide +kernel
theorem dX7_refuse_4 : decode cX7_refuse 4 = .ok (.ldc_w 313, 3) := by decide +kernel
theorem dX7_refuse_7 : decode cX7_refuse 7 = .ok (.iload_n 1, 1) := by decide +kernel
theorem dX7_refuse_8 : decode cX7_refuse 8 = .ok (.isub, 1) := by decide +kernel
theorem dX7_refuse_9 : decode cX7_refuse 9 = .ok (.dup2, 1) := by decide +kernel
theorem dX7_refuse_10 : decode cX7_refuse 10 = .ok (.iaload, 1) := by decide +kernel
theorem dX7_refuse_11 : decode cX7_refuse 11 = .ok (.iconst 1, 1) := by decide +kernel
theorem dX7_refuse_12 : decode cX7_refuse 12 = .ok (.iadd, 1) := by decide +kernel
theorem dX7_refuse_13 : decode cX7_refuse 13 = .ok (.iastore, 1) := by decide +kernel
theorem dX7_refuse_14 : decode cX7_refuse 14 = .ok (.iload_n 1, 1) := by decide +kernel
theorem dX7_refuse_15 : decode cX7_refuse 15 = .ok (.ireturn, 1) := by decide +kernel
theorem dX8_errs_0 : decode cX8_errs 0 = .ok (.aload_n 0, 1) := by decide +kernel
theorem dX8_errs_1 : decode cX8_errs 1 = .ok (.getfield 19, 3) := by decide +kernel
theorem dX8_errs_4 : decode cX8_errs 4 = .ok (.ldc 46, 2) := by decide +kernel
theorem dX8_errs_6 : decode cX8_errs 6 = .ok (.iload_n 1, 1) := by decide +kernel
theorem dX8_errs_7 : decode cX8_errs 7 = .ok (.isub, 1) := by decide +kernel
theorem dX8_errs_8 : decode cX8_errs 8 = .ok (.dup2, 1) := by decide +kernel
theorem dX8_errs_9 : decode cX8_errs 9 = .ok (.iaload, 1) := by decide +kernel
theorem dX8_errs_10 : decode cX8_errs 10 = .ok (.iconst 1, 1) := by decide +kernel
theorem dX8_errs_11 : decode cX8_errs 11 = .ok (.iadd, 1) := by decide +kernel
theorem dX8_errs_12 : decode cX8_errs 12 = .ok (.iastore, 1) := by decide +kernel
theorem dX8_errs_13 : decode cX8_errs 13 = .ok (.iload_n 1, 1) := by decide +kernel
theorem dX8_errs_14 : decode cX8_errs 14 = .ok (.ireturn, 1) := by decide +kernel
theorem dJ6_bitCount_0f7a4_0 : decode cJ6_bitCount_0f7a4 0 = .ok (.iload_n 0, 1) := by decide +kernel
theorem dJ6_bitCount_0f7a4_1 : decode cJ6_bitCount_0f7a4 1 = .ok (.iload_n 0, 1) := by decide +kernel
theorem dJ6_bitCount_0f7a4_2 : decode cJ6_bitCount_0f7a4 2 = .ok (.iconst 1, 1) := by decide +kernel
theorem dJ6_bitCount_0f7a4_3 : decode cJ6_bitCount_0f7a4 3 = .ok (.iushr, 1) := by decide +kernel
theorem dJ6_bitCount_0f7a4_4 : decode cJ6_bitCount_0f7a4 4 = .ok (.ldc_w 265, 3) := by decide +kernel
theorem dJ6_bitCount_0f7a4_7 : decode cJ6_bitCount_0f7a4 7 = .ok (.iand, 1) := by decide +kernel
theorem dJ6_bitCount_0f7a4_8 : decode cJ6_bitCount_0f7a4 8 = .ok (.isub, 1) := by decide +kernel
theorem dJ6_bitCount_0f7a4_9 : decode cJ6_bitCount_0f7a4 9 = .ok (.istore_n 0, 1) := by decide +kernel
theorem dJ6_bitCount_0f7a4_10 : decode cJ6_bitCount_0f7a4 10 = .ok (.iload_n 0, 1) := by decide +kernel
theorem dJ6_bitCount_0f7a4_11 : decode cJ6_bitCount_0f7a4 11 = .ok (.ldc_w 266, 3) := by decide +kernel
theorem dJ6_bitCount_0f7a4_14 : decode cJ6_bitCount_0f7a4 14 = .ok (.iand, 1) := by decide +kernel
theorem dJ6_bitCount_0f7a4_15 : decode cJ6_bitCount_0f7a4 15 = .ok (.iload_n 0, 1) := by decide +kernel
theorem dJ6_bitCount_0f7a4_16 : decode cJ6_bitCount_0f7a4 16 = .ok (.iconst 2, 1) := by decide +kernel
theorem dJ6_bitCount_0f7a4_17 : decode cJ6_bitCount_0f7a4 17 = .ok (.iushr, 1) := by decide +kernel
theorem dJ6_bitCount_0f7a4_18 : decode cJ6_bitCount_0f7a4 18 = .ok (.ldc_w 266, 3) := by decide +kernel
theorem dJ6_bitCount_0f7a4_21 : decode cJ6_bitCount_0f7a4 21 = .ok (.iand, 1) := by decide +kernel
theorem dJ6_bitCount_0f7a4_22 : decode cJ6_bitCount_0f7a4 22 = .ok (.iadd, 1) := by decide +kernel
theorem dJ6_bitCount_0f7a4_23 : decode cJ6_bitCount_0f7a4 23 = .ok (.istore_n 0, 1) := by decide +kernel
theorem dJ6_bitCount_0f7a4_24 : decode cJ6_bitCount_0f7a4 24 = .ok (.iload_n 0, 1) := by decide +kernel
theorem dJ6_bitCount_0f7a4_25 : decode cJ6_bitCount_0f7a4 25 = .ok (.iload_n 0, 1) := by decide +kernel
theorem dJ6_bitCount_0f7a4_26 : decode cJ6_bitCount_0f7a4 26 = .ok (.iconst 4, 1) := by decide +kernel
theorem dJ6_bitCount_0f7a4_27 : decode cJ6_bitCount_0f7a4 27 = .ok (.iushr, 1) := by decide +kernel
theorem dJ6_bitCount_0f7a4_28 : decode cJ6_bitCount_0f7a4 28 = .ok (.iadd, 1) := by decide +kernel
theorem dJ6_bitCount_0f7a4_29 : decode cJ6_bitCount_0f7a4 29 = .ok (.ldc_w 267, 3) := by decide +kernel
theorem dJ6_bitCount_0f7a4_32 : decode cJ6_bitCount_0f7a4 32 = .ok (.iand, 1) := by decide +kernel
theorem dJ6_bitCount_0f7a4_33 : decode cJ6_bitCount_0f7a4 33 = .ok (.istore_n 0, 1) := by decide +kernel
theorem dJ6_bitCount_0f7a4_34 : decode cJ6_bitCount_0f7a4 34 = .ok (.iload_n 0, 1) := by decide +kernel
theorem dJ6_bitCount_0f7a4_35 : decode cJ6_bitCount_0f7a4 35 = .ok (.iload_n 0, 1) := by decide +kernel
theorem dJ6_bitCount_0f7a4_36 : decode cJ6_bitCount_0f7a4 36 = .ok (.bipush 8, 2) := by decide +kernel
theorem dJ6_bitCount_0f7a4_38 : decode cJ6_bitCount_0f7a4 38 = .ok (.iushr, 1) := by decide +kernel
theorem dJ6_bitCount_0f7a4_39 : decode cJ6_bitCount_0f7a4 39 = .ok (.iadd, 1) := by decide +kernel
theorem dJ6_bitCount_0f7a4_40 : decode cJ6_bitCount_0f7a4 40 = .ok (.istore_n 0, 1) := by decide +kernel
theorem dJ6_bitCount_0f7a4_41 : decode cJ6_bitCount_0f7a4 41 = .ok (.iload_n 0, 1) := by decide +kernel
theorem dJ6_bitCount_0f7a4_42 : decode cJ6_bitCount_0f7a4 42 = .ok (.iload_n 0, 1) := by decide +kernel
theorem dJ6_bitCount_0f7a4_43 : decode cJ6_bitCount_0f7a4 43 = .ok (.bipush 16, 2) := by decide +kernel
theorem dJ6_bitCount_0f7a4_45 : decode cJ6_bitCount_0f7a4 45 = .ok (.iushr, 1) := by decide +kernel
theorem dJ6_bitCount_0f7a4_46 : decode cJ6_bitCount_0f7a4 46 = .ok (.iadd, 1) := by decide +kernel
theorem dJ6_bitCount_0f7a4_47 : decode cJ6_bitCount_0f7a4 47 = .ok (.istore_n 0, 1) := by decide +kernel
theorem dJ6_bitCount_0f7a4_48 : decode cJ6_bitCount_0f7a4 48 = .ok (.iload_n 0, 1) := by decide +kernel
theorem dJ6_bitCount_0f7a4_49 : decode cJ6_bitCount_0f7a4 49 = .ok (.bipush 63, 2) := by decide +kernel
theorem dJ6_bitCount_0f7a4_51 : decode cJ6_bitCount_0f7a4 51 = .ok (.iand, 1) := by decide +kernel
theorem dJ6_bitCount_0f7a4_52 : decode cJ6_bitCount_0f7a4 52 = .ok (.ireturn, 1) := by decide +kernel
set_option maxRecDepth 100000 in
set_option maxHeartbeats 4000000 in
theorem c_X7_isWithin (l : Launch) (D : va_G) (y : wY) (ad : Nat → Nat) (M : Mem) (v a b : Int32) (ia ib : Int) (ha : a.toInt = ia) (hb : b.toInt = ib) : MI l D y ad yX7_isWithin (Cond.code yX7_isWithin cX7_isWithin 3 (some .boolean)) 0 M [.int v, .int a, .int b] (fun r M' => (1 = r ∧ M = M' ∧ ia ≤ v.toInt ∧ v.toInt ≤ ib) ∨ (0 = r ∧ M = M' ∧ ¬ (ia ≤ v.toInt ∧ v.toInt ≤ ib))) := by
  refine MI_of (by decide) (Nat.le_of_ble_eq_true rfl) ?_
  intro p e s m args below meth c X hr hlocks
  refine j_lv (lv1 := [(0, .int v), (1, .int a), (2, .int b)]) [0, 1, 2] rfl ?_
  refine j_iload_n X 0 rfl rfl dX7_isWithin_0 ?_
  refine j_iload_n X 1 rfl rfl dX7_isWithin_1 ?_
  refine j_icmp_lt X 14 (by decide) dX7_isWithin_2 (fun c_1 => ?_) (fun c_1 => ?_)
  · have qc_1 := ti_lt (a := v.toInt) (b := a.toInt) rfl rfl c_1
    refine j_iconst X (v := 0) (by decide) dX7_isWithin_14 ?_
    exact j_zret X hr hlocks (Or.inl rfl) dX7_isWithin_15 (Or.inr ⟨rfl, rfl, by omega⟩)
  · have qc_1 := ti_nlt (a := v.toInt) (b := a.toInt) rfl rfl c_1
    refine j_iload_n X 0 rfl rfl dX7_isWithin_5 ?_
    refine j_iload_n X 2 rfl rfl dX7_isWithin_6 ?_
    refine j_icmp_gt X 14 (by decide) dX7_isWithin_7 (fun c_2 => ?_) (fun c_2 => ?_)
    · have qc_2 := ti_lt (a := b.toInt) (b := v.toInt) rfl rfl c_2
      refine j_iconst X (v := 0) (by decide) dX7_isWithin_14 ?_
      exact j_zret X hr hlocks (Or.inl rfl) dX7_isWithin_15 (Or.inr ⟨rfl, rfl, by omega⟩)
    · have qc_2 := ti_nlt (a := b.toInt) (b := v.toInt) rfl rfl c_2
      refine j_iconst X (v := 1) (by decide) dX7_isWithin_10 ?_
      refine j_goto X 15 (by decide) dX7_isWithin_11 ?_
      exact j_zret X hr hlocks (Or.inr rfl) dX7_isWithin_15 (Or.inl ⟨rfl, rfl, by omega⟩)
set_option maxRecDepth 100000 in
set_option maxHeartbeats 4000000 in
theorem c_X8_in (l : Launch) (D : va_G) (y : wY) (ad : Nat → Nat) (M : Mem) (v a b : Int32) (ia ib : Int) (ha : a.toInt = ia) (hb : b.toInt = ib) : MI l D y ad yX8_in (Cond.code yX8_in cX8_in 3 (some .boolean)) 0 M [.int v, .int a, .int b] (fun r M' => (1 = r ∧ M = M' ∧ ia ≤ v.toInt ∧ v.toInt ≤ ib) ∨ (0 = r ∧ M = M' ∧ ¬ (ia ≤ v.toInt ∧ v.toInt ≤ ib))) := by
  refine MI_of (by decide) (Nat.le_of_ble_eq_true rfl) ?_
  intro p e s m args below meth c X hr hlocks
  refine j_lv (lv1 := [(0, .int v), (1, .int a), (2, .int b)]) [0, 1, 2] rfl ?_
  refine j_iload_n X 0 rfl rfl dX8_in_0 ?_
  refine j_iload_n X 1 rfl rfl dX8_in_1 ?_
  refine j_icmp_lt X 14 (by decide) dX8_in_2 (fun c_1 => ?_) (fun c_1 => ?_)
  · have qc_1 := ti_lt (a := v.toInt) (b := a.toInt) rfl rfl c_1
    refine j_iconst X (v := 0) (by decide) dX8_in_14 ?_
    exact j_zret X hr hlocks (Or.inl rfl) dX8_in_15 (Or.inr ⟨rfl, rfl, by omega⟩)
  · have qc_1 := ti_nlt (a := v.toInt) (b := a.toInt) rfl rfl c_1
    refine j_iload_n X 0 rfl rfl dX8_in_5 ?_
    refine j_iload_n X 2 rfl rfl dX8_in_6 ?_
    refine j_icmp_gt X 14 (by decide) dX8_in_7 (fun c_2 => ?_) (fun c_2 => ?_)
    · have qc_2 := ti_lt (a := b.toInt) (b := v.toInt) rfl rfl c_2
      refine j_iconst X (v := 0) (by decide) dX8_in_14 ?_
      exact j_zret X hr hlocks (Or.inl rfl) dX8_in_15 (Or.inr ⟨rfl, rfl, by omega⟩)
    · have qc_2 := ti_nlt (a := b.toInt) (b := v.toInt) rfl rfl c_2
      refine j_iconst X (v := 1) (by decide) dX8_in_10 ?_
      refine j_goto X 15 (by decide) dX8_in_11 ?_
      exact j_zret X hr hlocks (Or.inr rfl) dX8_in_15 (Or.inl ⟨rfl, rfl, by omega⟩)
set_option maxRecDepth 100000 in
set_option maxHeartbeats 4000000 in
theorem c_X7_refuse (l : Launch) (D : va_G) (y : wY) (ad : Nat → Nat) (M : Mem) (v : Int32) (i : Nat) (hv : (-1000000000) - v = nI i) (hi : i < 6) : MI l D y ad yX7_refuse (Cond.code yX7_refuse cX7_refuse 2 (some .int)) 0 M [.ref (ad 0), .int v] (fun r M' => v = r ∧ up M 78 i (M 78 i + 1) = M') := by
  refine MI_of (by decide) (Nat.le_of_ble_eq_true rfl) ?_
  intro p e s m args below meth c X hr hlocks
  refine j_lv (lv1 := [(0, .ref (ad 0)), (1, .int v)]) [0, 1] rfl ?_
  refine j_aload_n X 0 rfl rfl dX7_refuse_0 ?_
  refine j_get X (by decide) (wE_7 _ rfl) rfl awF7 6 (by decide) aw_33 rfl (v := .ref (ad 78)) rfl dX7_refuse_1 ?_
  refine j_ldcw X (v := (-1000000000)) aw_120 dX7_refuse_4 ?_
  refine j_iload_n X 1 rfl rfl dX7_refuse_7 ?_
  refine j_isub X dX7_refuse_8 ?_
  refine j_dup2 X rfl rfl dX7_refuse_9 ?_
  refine j_iald X (by decide) rfl (by rw [hv]; exact vp_in_nI hi (by decide)) dX7_refuse_10 ?_
  refine j_eqi (v := M 78 i) (by rw [hv, nI_clamp (by omega)]) ?_
  refine j_iconst X (v := 1) (by decide) dX7_refuse_11 ?_
  refine j_iadd X dX7_refuse_12 ?_
  refine j_iast X (by decide) rfl (by rw [hv]; exact vp_in_nI hi (by decide)) dX7_refuse_13 ?_
  refine j_eqM (M1 := (up M 78 i ((M 78 i) + 1))) (by rw [hv, nI_clamp (by omega)]) ?_
  refine j_iload_n X 1 rfl rfl dX7_refuse_14 ?_
  exact j_iret X hr hlocks dX7_refuse_15 ⟨rfl, rfl⟩
set_option maxRecDepth 100000 in
set_option maxHeartbeats 4000000 in
theorem c_X8_errs (l : Launch) (D : va_G) (y : wY) (ad : Nat → Nat) (M : Mem) (v : Int32) (i : Nat) (hv : (-1000000000) - v = nI i) (hi : i < 6) : MI l D y ad yX8_errs (Cond.code yX8_errs cX8_errs 2 (some .int)) 0 M [.ref (ad 79), .int v] (fun r M' => v = r ∧ up M 83 i (M 83 i + 1) = M') := by
  refine MI_of (by decide) (Nat.le_of_ble_eq_true rfl) ?_
  intro p e s m args below meth c X hr hlocks
  refine j_lv (lv1 := [(0, .ref (ad 79)), (1, .int v)]) [0, 1] rfl ?_
  refine j_aload_n X 0 rfl rfl dX8_errs_0 ?_
  refine j_get X (by decide) (wE_8 _ rfl) rfl awF8 5 (by decide) aw_95 rfl (v := .ref (ad 83)) rfl dX8_errs_1 ?_
  refine j_ldc X (v := (-1000000000)) aw_147 dX8_errs_4 ?_
  refine j_iload_n X 1 rfl rfl dX8_errs_6 ?_
  refine j_isub X dX8_errs_7 ?_
  refine j_dup2 X rfl rfl dX8_errs_8 ?_
  refine j_iald X (by decide) rfl (by rw [hv]; exact vp_in_nI hi (by decide)) dX8_errs_9 ?_
  refine j_eqi (v := M 83 i) (by rw [hv, nI_clamp (by omega)]) ?_
  refine j_iconst X (v := 1) (by decide) dX8_errs_10 ?_
  refine j_iadd X dX8_errs_11 ?_
  refine j_iast X (by decide) rfl (by rw [hv]; exact vp_in_nI hi (by decide)) dX8_errs_12 ?_
  refine j_eqM (M1 := (up M 83 i ((M 83 i) + 1))) (by rw [hv, nI_clamp (by omega)]) ?_
  refine j_iload_n X 1 rfl rfl dX8_errs_13 ?_
  exact j_iret X hr hlocks dX8_errs_14 ⟨rfl, rfl⟩
set_option maxRecDepth 100000 in
set_option maxHeartbeats 4000000 in
theorem c_bitCount0 (l : Launch) (D : va_G) (y : wY) (ad : Nat → Nat) (M : Mem)  : MI l D y ad yJ6_bitCount_0f7a4 (Cond.code yJ6_bitCount_0f7a4 cJ6_bitCount_0f7a4 1 (some .int)) 0 M [.int 0] (fun r M' => 0 = r ∧ M = M') := by
  refine MI_of (by decide) (Nat.le_of_ble_eq_true rfl) ?_
  intro p e s m args below meth c X hr hlocks
  refine j_lv (lv1 := [(0, .int 0)]) [0] rfl ?_
  refine j_iload_n X 0 rfl rfl dJ6_bitCount_0f7a4_0 ?_
  refine j_iload_n X 0 rfl rfl dJ6_bitCount_0f7a4_1 ?_
  refine j_iconst X (v := 1) (by decide) dJ6_bitCount_0f7a4_2 ?_
  refine j_iushr X dJ6_bitCount_0f7a4_3 ?_
  refine j_eqi (v := 0) (by decide) ?_
  refine j_ldcw X (v := 1431655765) aw_473 dJ6_bitCount_0f7a4_4 ?_
  refine j_iand X dJ6_bitCount_0f7a4_7 ?_
  refine j_eqi (v := 0) (by decide) ?_
  refine j_isub X dJ6_bitCount_0f7a4_8 ?_
  refine j_eqi (v := 0) (by decide) ?_
  refine j_istore_n X [(0, .int 0)] rfl (by decide) rfl dJ6_bitCount_0f7a4_9 ?_
  refine j_iload_n X 0 rfl rfl dJ6_bitCount_0f7a4_10 ?_
  refine j_ldcw X (v := 858993459) aw_474 dJ6_bitCount_0f7a4_11 ?_
  refine j_iand X dJ6_bitCount_0f7a4_14 ?_
  refine j_eqi (v := 0) (by decide) ?_
  refine j_iload_n X 0 rfl rfl dJ6_bitCount_0f7a4_15 ?_
  refine j_iconst X (v := 2) (by decide) dJ6_bitCount_0f7a4_16 ?_
  refine j_iushr X dJ6_bitCount_0f7a4_17 ?_
  refine j_eqi (v := 0) (by decide) ?_
  refine j_ldcw X (v := 858993459) aw_474 dJ6_bitCount_0f7a4_18 ?_
  refine j_iand X dJ6_bitCount_0f7a4_21 ?_
  refine j_eqi (v := 0) (by decide) ?_
  refine j_iadd X dJ6_bitCount_0f7a4_22 ?_
  refine j_eqi (v := 0) (by decide) ?_
  refine j_istore_n X [(0, .int 0)] rfl (by decide) rfl dJ6_bitCount_0f7a4_23 ?_
  refine j_iload_n X 0 rfl rfl dJ6_bitCount_0f7a4_24 ?_
  refine j_iload_n X 0 rfl rfl dJ6_bitCount_0f7a4_25 ?_
  refine j_iconst X (v := 4) (by decide) dJ6_bitCount_0f7a4_26 ?_
  refine j_iushr X dJ6_bitCount_0f7a4_27 ?_
  refine j_eqi (v := 0) (by decide) ?_
  refine j_iadd X dJ6_bitCount_0f7a4_28 ?_
  refine j_eqi (v := 0) (by decide) ?_
  refine j_ldcw X (v := 252645135) aw_475 dJ6_bitCount_0f7a4_29 ?_
  refine j_iand X dJ6_bitCount_0f7a4_32 ?_
  refine j_eqi (v := 0) (by decide) ?_
  refine j_istore_n X [(0, .int 0)] rfl (by decide) rfl dJ6_bitCount_0f7a4_33 ?_
  refine j_iload_n X 0 rfl rfl dJ6_bitCount_0f7a4_34 ?_
  refine j_iload_n X 0 rfl rfl dJ6_bitCount_0f7a4_35 ?_
  refine j_bipush X (v := 8) (by decide) dJ6_bitCount_0f7a4_36 ?_
  refine j_iushr X dJ6_bitCount_0f7a4_38 ?_
  refine j_eqi (v := 0) (by decide) ?_
  refine j_iadd X dJ6_bitCount_0f7a4_39 ?_
  refine j_eqi (v := 0) (by decide) ?_
  refine j_istore_n X [(0, .int 0)] rfl (by decide) rfl dJ6_bitCount_0f7a4_40 ?_
  refine j_iload_n X 0 rfl rfl dJ6_bitCount_0f7a4_41 ?_
  refine j_iload_n X 0 rfl rfl dJ6_bitCount_0f7a4_42 ?_
  refine j_bipush X (v := 16) (by decide) dJ6_bitCount_0f7a4_43 ?_
  refine j_iushr X dJ6_bitCount_0f7a4_45 ?_
  refine j_eqi (v := 0) (by decide) ?_
  refine j_iadd X dJ6_bitCount_0f7a4_46 ?_
  refine j_eqi (v := 0) (by decide) ?_
  refine j_istore_n X [(0, .int 0)] rfl (by decide) rfl dJ6_bitCount_0f7a4_47 ?_
  refine j_iload_n X 0 rfl rfl dJ6_bitCount_0f7a4_48 ?_
  refine j_bipush X (v := 63) (by decide) dJ6_bitCount_0f7a4_49 ?_
  refine j_iand X dJ6_bitCount_0f7a4_51 ?_
  refine j_eqi (v := 0) (by decide) ?_
  exact j_iret X hr hlocks dJ6_bitCount_0f7a4_52 ⟨rfl, rfl⟩
end
section
theorem dX0_grindArea_0 : decode cX0_grindArea 0 = .ok (.iconst 0, 1) := by decide +kernel
theorem dX0_grindArea_1 : decode cX0_grindArea 1 = .ok (.istore_n 1, 1) := by decide +kernel
theorem dX0_grindArea_2 : decode cX0_grindArea 2 = .ok (.iload_n 1, 1) := by decide +kernel
theorem dX0_grindArea_3 : decode cX0_grindArea 3 = .ok (.aload_n 0, 1) := by decide +kernel
theorem dX0_grindArea_4 : decode cX0_grindArea 4 = .ok (.getfield 29, 3) := by decide +kernel
theorem dX0_grindArea_7 : decode cX0_grindArea 7 = .ok (.if_icmp .ge 68, 3) := by decide +kernel
theorem dX0_grindArea_75 : decode cX0_grindArea 75 = .ok (.return_, 1) := by decide +kernel
theorem dX0_endOrDull_0 : decode cX0_endOrDull 0 = .ok (.iconst 0, 1) := by decide +kernel
theorem dX0_endOrDull_1 : decode cX0_endOrDull 1 = .ok (.istore_n 2, 1) := by decide +kernel
theorem dX0_endOrDull_2 : decode cX0_endOrDull 2 = .ok (.iload_n 2, 1) := by decide +kernel
theorem dX0_endOrDull_3 : decode cX0_endOrDull 3 = .ok (.aload_n 0, 1) := by decide +kernel
theorem dX0_endOrDull_4 : decode cX0_endOrDull 4 = .ok (.getfield 29, 3) := by decide +kernel
theorem dX0_endOrDull_7 : decode cX0_endOrDull 7 = .ok (.if_icmp .ge 123, 3) := by decide +kernel
theorem dX0_endOrDull_130 : decode cX0_endOrDull 130 = .ok (.return_, 1) := by decide +kernel
theorem dX0_setEnded_0 : decode cX0_setEnded 0 = .ok (.iconst 0, 1) := by decide +kernel
theorem dX0_setEnded_1 : decode cX0_setEnded 1 = .ok (.istore_n 1, 1) := by decide +kernel
theorem dX0_setEnded_2 : decode cX0_setEnded 2 = .ok (.iconst 0, 1) := by decide +kernel
theorem dX0_setEnded_3 : decode cX0_setEnded 3 = .ok (.istore_n 2, 1) := by decide +kernel
theorem dX0_setEnded_4 : decode cX0_setEnded 4 = .ok (.iload_n 2, 1) := by decide +kernel
theorem dX0_setEnded_5 : decode cX0_setEnded 5 = .ok (.aload_n 0, 1) := by decide +kernel
theorem dX0_setEnded_6 : decode cX0_setEnded 6 = .ok (.getfield 29, 3) := by decide +kernel
theorem dX0_setEnded_9 : decode cX0_setEnded 9 = .ok (.if_icmp .ge 31, 3) := by decide +kernel
theorem dX0_setEnded_40 : decode cX0_setEnded 40 = .ok (.iload_n 1, 1) := by decide +kernel
theorem dX0_setEnded_41 : decode cX0_setEnded 41 = .ok (.ireturn, 1) := by decide +kernel
theorem dX0_setInArea_0 : decode cX0_setInArea 0 = .ok (.iconst 0, 1) := by decide +kernel
theorem dX0_setInArea_1 : decode cX0_setInArea 1 = .ok (.istore_n 2, 1) := by decide +kernel
theorem dX0_setInArea_2 : decode cX0_setInArea 2 = .ok (.iconst 0, 1) := by decide +kernel
theorem dX0_setInArea_3 : decode cX0_setInArea 3 = .ok (.istore_n 3, 1) := by decide +kernel
theorem dX0_setInArea_4 : decode cX0_setInArea 4 = .ok (.iload_n 3, 1) := by decide +kernel
theorem dX0_setInArea_5 : decode cX0_setInArea 5 = .ok (.aload_n 0, 1) := by decide +kernel
theorem dX0_setInArea_6 : decode cX0_setInArea 6 = .ok (.getfield 29, 3) := by decide +kernel
theorem dX0_setInArea_9 : decode cX0_setInArea 9 = .ok (.if_icmp .ge 32, 3) := by decide +kernel
theorem dX0_setInArea_41 : decode cX0_setInArea 41 = .ok (.iload_n 2, 1) := by decide +kernel
theorem dX0_setInArea_42 : decode cX0_setInArea 42 = .ok (.ireturn, 1) := by decide +kernel
theorem dX0_setFree_0 : decode cX0_setFree 0 = .ok (.iconst 0, 1) := by decide +kernel
theorem dX0_setFree_1 : decode cX0_setFree 1 = .ok (.istore_n 1, 1) := by decide +kernel
theorem dX0_setFree_2 : decode cX0_setFree 2 = .ok (.iconst 0, 1) := by decide +kernel
theorem dX0_setFree_3 : decode cX0_setFree 3 = .ok (.istore_n 2, 1) := by decide +kernel
theorem dX0_setFree_4 : decode cX0_setFree 4 = .ok (.iload_n 2, 1) := by decide +kernel
theorem dX0_setFree_5 : decode cX0_setFree 5 = .ok (.aload_n 0, 1) := by decide +kernel
theorem dX0_setFree_6 : decode cX0_setFree 6 = .ok (.getfield 29, 3) := by decide +kernel
theorem dX0_setFree_9 : decode cX0_setFree 9 = .ok (.if_icmp .ge 44, 3) := by decide +kernel
theorem dX0_setFree_53 : decode cX0_setFree 53 = .ok (.iload_n 1, 1) := by decide +kernel
theorem dX0_setFree_54 : decode cX0_setFree 54 = .ok (.ireturn, 1) := by decide +kernel
theorem dX0_edgesTogether_0 : decode cX0_edgesTogether 0 = .ok (.iconst 0, 1) := by decide +kernel
theorem dX0_edgesTogether_1 : decode cX0_edgesTogether 1 = .ok (.istore_n 1, 1) := by decide +kernel
theorem dX0_edgesTogether_2 : decode cX0_edgesTogether 2 = .ok (.iconst 0, 1) := by decide +kernel
theorem dX0_edgesTogether_3 : decode cX0_edgesTogether 3 = .ok (.istore_n 2, 1) := by decide +kernel
theorem dX0_edgesTogether_4 : decode cX0_edgesTogether 4 = .ok (.iload_n 2, 1) := by decide +kernel
theorem dX0_edgesTogether_5 : decode cX0_edgesTogether 5 = .ok (.aload_n 0, 1) := by decide +kernel
theorem dX0_edgesTogether_6 : decode cX0_edgesTogether 6 = .ok (.getfield 29, 3) := by decide +kernel
theorem dX0_edgesTogether_9 : decode cX0_edgesTogether 9 = .ok (.if_icmp .ge 21, 3) := by decide +kernel
theorem dX0_edgesTogether_30 : decode cX0_edgesTogether 30 = .ok (.iload_n 1, 1) := by decide +kernel
theorem dX0_edgesTogether_31 : decode cX0_edgesTogether 31 = .ok (.ireturn, 1) := by decide +kernel
theorem dX0_endedMany_0 : decode cX0_endedMany 0 = .ok (.aload_n 0, 1) := by decide +kernel
theorem dX0_endedMany_1 : decode cX0_endedMany 1 = .ok (.invokevirtual 122, 3) := by decide +kernel
theorem dX0_endedMany_4 : decode cX0_endedMany 4 = .ok (.invokestatic 125, 3) := by decide +kernel
theorem dX0_endedMany_7 : decode cX0_endedMany 7 = .ok (.ireturn, 1) := by decide +kernel
theorem dX0_restDay_0 : decode cX0_restDay 0 = .ok (.aload_n 0, 1) := by decide +kernel
theorem dX0_restDay_1 : decode cX0_restDay 1 = .ok (.iload_n 1, 1) := by decide +kernel
theorem dX0_restDay_2 : decode cX0_restDay 2 = .ok (.invokevirtual 55, 3) := by decide +kernel
theorem dX0_restDay_5 : decode cX0_restDay 5 = .ok (.aload_n 0, 1) := by decide +kernel
theorem dX0_restDay_6 : decode cX0_restDay 6 = .ok (.aload_n 0, 1) := by decide +kernel
theorem dX0_restDay_7 : decode cX0_restDay 7 = .ok (.getfield 36, 3) := by decide +kernel
theorem dX0_restDay_10 : decode cX0_restDay 10 = .ok (.aload_n 0, 1) := by decide +kernel
theorem dX0_restDay_11 : decode cX0_restDay 11 = .ok (.getfield 17, 3) := by decide +kernel
theorem dX0_restDay_14 : decode cX0_restDay 14 = .ok (.iadd, 1) := by decide +kernel
theorem dX0_restDay_15 : decode cX0_restDay 15 = .ok (.bipush 10, 2) := by decide +kernel
theorem dX0_restDay_17 : decode cX0_restDay 17 = .ok (.irem, 1) := by decide +kernel
theorem dX0_restDay_18 : decode cX0_restDay 18 = .ok (.putfield 36, 3) := by decide +kernel
theorem dX0_restDay_21 : decode cX0_restDay 21 = .ok (.aload_n 0, 1) := by decide +kernel
theorem dX0_restDay_22 : decode cX0_restDay 22 = .ok (.dup, 1) := by decide +kernel
theorem dX0_restDay_23 : decode cX0_restDay 23 = .ok (.getfield 39, 3) := by decide +kernel
theorem dX0_restDay_26 : decode cX0_restDay 26 = .ok (.iconst 1, 1) := by decide +kernel
theorem dX0_restDay_27 : decode cX0_restDay 27 = .ok (.iadd, 1) := by decide +kernel
theorem dX0_restDay_28 : decode cX0_restDay 28 = .ok (.putfield 39, 3) := by decide +kernel
theorem dX0_restDay_31 : decode cX0_restDay 31 = .ok (.return_, 1) := by decide +kernel
theorem dX0_passDay_0 : decode cX0_passDay 0 = .ok (.aload_n 0, 1) := by decide +kernel
theorem dX0_passDay_1 : decode cX0_passDay 1 = .ok (.invokevirtual 48, 3) := by decide +kernel
theorem dX0_passDay_4 : decode cX0_passDay 4 = .ok (.aload_n 0, 1) := by decide +kernel
theorem dX0_passDay_5 : decode cX0_passDay 5 = .ok (.iload_n 1, 1) := by decide +kernel
theorem dX0_passDay_6 : decode cX0_passDay 6 = .ok (.invokevirtual 51, 3) := by decide +kernel
theorem dX0_passDay_9 : decode cX0_passDay 9 = .ok (.return_, 1) := by decide +kernel
theorem dX0_copyFrom_0 : decode cX0_copyFrom 0 = .ok (.iconst 0, 1) := by decide +kernel
theorem dX0_copyFrom_1 : decode cX0_copyFrom 1 = .ok (.istore_n 2, 1) := by decide +kernel
theorem dX0_copyFrom_2 : decode cX0_copyFrom 2 = .ok (.iload_n 2, 1) := by decide +kernel
theorem dX0_copyFrom_3 : decode cX0_copyFrom 3 = .ok (.aload_n 1, 1) := by decide +kernel
theorem dX0_copyFrom_4 : decode cX0_copyFrom 4 = .ok (.getfield 29, 3) := by decide +kernel
theorem dX0_copyFrom_7 : decode cX0_copyFrom 7 = .ok (.if_icmp .ge 24, 3) := by decide +kernel
theorem dX0_copyFrom_31 : decode cX0_copyFrom 31 = .ok (.aload_n 0, 1) := by decide +kernel
theorem dX0_copyFrom_32 : decode cX0_copyFrom 32 = .ok (.aload_n 1, 1) := by decide +kernel
theorem dX0_copyFrom_33 : decode cX0_copyFrom 33 = .ok (.getfield 29, 3) := by decide +kernel
theorem dX0_copyFrom_36 : decode cX0_copyFrom 36 = .ok (.putfield 29, 3) := by decide +kernel
theorem dX0_copyFrom_39 : decode cX0_copyFrom 39 = .ok (.aload_n 0, 1) := by decide +kernel
theorem dX0_copyFrom_40 : decode cX0_copyFrom 40 = .ok (.aload_n 1, 1) := by decide +kernel
theorem dX0_copyFrom_41 : decode cX0_copyFrom 41 = .ok (.getfield 36, 3) := by decide +kernel
theorem dX0_copyFrom_44 : decode cX0_copyFrom 44 = .ok (.putfield 36, 3) := by decide +kernel
theorem dX0_copyFrom_47 : decode cX0_copyFrom 47 = .ok (.aload_n 0, 1) := by decide +kernel
theorem dX0_copyFrom_48 : decode cX0_copyFrom 48 = .ok (.aload_n 1, 1) := by decide +kernel
theorem dX0_copyFrom_49 : decode cX0_copyFrom 49 = .ok (.getfield 17, 3) := by decide +kernel
theorem dX0_copyFrom_52 : decode cX0_copyFrom 52 = .ok (.putfield 17, 3) := by decide +kernel
theorem dX0_copyFrom_55 : decode cX0_copyFrom 55 = .ok (.aload_n 0, 1) := by decide +kernel
theorem dX0_copyFrom_56 : decode cX0_copyFrom 56 = .ok (.aload_n 1, 1) := by decide +kernel
theorem dX0_copyFrom_57 : decode cX0_copyFrom 57 = .ok (.getfield 39, 3) := by decide +kernel
theorem dX0_copyFrom_60 : decode cX0_copyFrom 60 = .ok (.putfield 39, 3) := by decide +kernel
theorem dX0_copyFrom_63 : decode cX0_copyFrom 63 = .ok (.aload_n 0, 1) := by decide +kernel
theorem dX0_copyFrom_64 : decode cX0_copyFrom 64 = .ok (.aload_n 1, 1) := by decide +kernel
theorem dX0_copyFrom_65 : decode cX0_copyFrom 65 = .ok (.getfield 42, 3) := by decide +kernel
theorem dX0_copyFrom_68 : decode cX0_copyFrom 68 = .ok (.putfield 42, 3) := by decide +kernel
theorem dX0_copyFrom_71 : decode cX0_copyFrom 71 = .ok (.aload_n 0, 1) := by decide +kernel
theorem dX0_copyFrom_72 : decode cX0_copyFrom 72 = .ok (.aload_n 1, 1) := by decide +kernel
theorem dX0_copyFrom_73 : decode cX0_copyFrom 73 = .ok (.getfield 45, 3) := by decide +kernel
theorem dX0_copyFrom_76 : decode cX0_copyFrom 76 = .ok (.putfield 45, 3) := by decide +kernel
theorem dX0_copyFrom_79 : decode cX0_copyFrom 79 = .ok (.return_, 1) := by decide +kernel
set_option maxRecDepth 100000 in
set_option maxHeartbeats 4000000 in
theorem c_grindArea0_12 (l : Launch) (D : va_G) (y : wY) (ad : Nat → Nat) (M : Mem) (hm : M 12 3 = 0) : MV l D y ad yX0_grindArea (Cond.code yX0_grindArea cX0_grindArea 3 none) 0 M [.ref (ad 12)] (fun M' => M = M') := by
  refine MV_of (by decide) (Nat.le_of_ble_eq_true rfl) ?_
  intro p e s m args below meth c X hr hlocks
  refine j_lv (lv1 := [(0, .ref (ad 12))]) [0] rfl ?_
  refine j_iconst X (v := 0) (by decide) dX0_grindArea_0 ?_
  refine j_istore_n X [(1, .int 0), (0, .ref (ad 12))] rfl (by decide) rfl dX0_grindArea_1 ?_
  refine j_iload_n X 0 rfl rfl dX0_grindArea_2 ?_
  refine j_aload_n X 1 rfl rfl dX0_grindArea_3 ?_
  refine j_get X (by decide) (wE_0 _ rfl) rfl awF0 3 (by decide) aw_155 rfl (v := .int (M 12 3)) rfl dX0_grindArea_4 ?_
  refine j_eqi (v := 0) hm ?_
  refine j_icmp_ge X 75 (by decide) dX0_grindArea_7 (fun c_1 => ?_) (fun c_1 => False.elim (by revert c_1; decide))
  exact j_vret X hr hlocks dX0_grindArea_75 rfl
set_option maxRecDepth 100000 in
set_option maxHeartbeats 4000000 in
theorem c_endOrDull0_12 (l : Launch) (D : va_G) (y : wY) (ad : Nat → Nat) (M : Mem) (hm : M 12 3 = 0) (b : Int32) : MV l D y ad yX0_endOrDull (Cond.code yX0_endOrDull cX0_endOrDull 4 none) 0 M [.ref (ad 12), .int b] (fun M' => M = M') := by
  refine MV_of (by decide) (Nat.le_of_ble_eq_true rfl) ?_
  intro p e s m args below meth c X hr hlocks
  refine j_lv (lv1 := [(0, .ref (ad 12)), (1, .int b)]) [0, 1] rfl ?_
  refine j_iconst X (v := 0) (by decide) dX0_endOrDull_0 ?_
  refine j_istore_n X [(2, .int 0), (0, .ref (ad 12)), (1, .int b)] rfl (by decide) rfl dX0_endOrDull_1 ?_
  refine j_iload_n X 0 rfl rfl dX0_endOrDull_2 ?_
  refine j_aload_n X 1 rfl rfl dX0_endOrDull_3 ?_
  refine j_get X (by decide) (wE_0 _ rfl) rfl awF0 3 (by decide) aw_155 rfl (v := .int (M 12 3)) rfl dX0_endOrDull_4 ?_
  refine j_eqi (v := 0) hm ?_
  refine j_icmp_ge X 130 (by decide) dX0_endOrDull_7 (fun c_1 => ?_) (fun c_1 => False.elim (by revert c_1; decide))
  exact j_vret X hr hlocks dX0_endOrDull_130 rfl
set_option maxRecDepth 100000 in
set_option maxHeartbeats 4000000 in
theorem c_setEnded0_12 (l : Launch) (D : va_G) (y : wY) (ad : Nat → Nat) (M : Mem) (hm : M 12 3 = 0) : MI l D y ad yX0_setEnded (Cond.code yX0_setEnded cX0_setEnded 3 (some .int)) 0 M [.ref (ad 12)] (fun r M' => 0 = r ∧ M = M') := by
  refine MI_of (by decide) (Nat.le_of_ble_eq_true rfl) ?_
  intro p e s m args below meth c X hr hlocks
  refine j_lv (lv1 := [(0, .ref (ad 12))]) [0] rfl ?_
  refine j_iconst X (v := 0) (by decide) dX0_setEnded_0 ?_
  refine j_istore_n X [(1, .int 0), (0, .ref (ad 12))] rfl (by decide) rfl dX0_setEnded_1 ?_
  refine j_iconst X (v := 0) (by decide) dX0_setEnded_2 ?_
  refine j_istore_n X [(2, .int 0), (1, .int 0), (0, .ref (ad 12))] rfl (by decide) rfl dX0_setEnded_3 ?_
  refine j_iload_n X 0 rfl rfl dX0_setEnded_4 ?_
  refine j_aload_n X 2 rfl rfl dX0_setEnded_5 ?_
  refine j_get X (by decide) (wE_0 _ rfl) rfl awF0 3 (by decide) aw_155 rfl (v := .int (M 12 3)) rfl dX0_setEnded_6 ?_
  refine j_eqi (v := 0) hm ?_
  refine j_icmp_ge X 40 (by decide) dX0_setEnded_9 (fun c_1 => ?_) (fun c_1 => False.elim (by revert c_1; decide))
  refine j_iload_n X 1 rfl rfl dX0_setEnded_40 ?_
  exact j_iret X hr hlocks dX0_setEnded_41 ⟨rfl, rfl⟩
set_option maxRecDepth 100000 in
set_option maxHeartbeats 4000000 in
theorem c_setInArea0_12 (l : Launch) (D : va_G) (y : wY) (ad : Nat → Nat) (M : Mem) (hm : M 12 3 = 0) (b : Int32) : MI l D y ad yX0_setInArea (Cond.code yX0_setInArea cX0_setInArea 4 (some .int)) 0 M [.ref (ad 12), .int b] (fun r M' => 0 = r ∧ M = M') := by
  refine MI_of (by decide) (Nat.le_of_ble_eq_true rfl) ?_
  intro p e s m args below meth c X hr hlocks
  refine j_lv (lv1 := [(0, .ref (ad 12)), (1, .int b)]) [0, 1] rfl ?_
  refine j_iconst X (v := 0) (by decide) dX0_setInArea_0 ?_
  refine j_istore_n X [(2, .int 0), (0, .ref (ad 12)), (1, .int b)] rfl (by decide) rfl dX0_setInArea_1 ?_
  refine j_iconst X (v := 0) (by decide) dX0_setInArea_2 ?_
  refine j_istore_n X [(3, .int 0), (2, .int 0), (0, .ref (ad 12)), (1, .int b)] rfl (by decide) rfl dX0_setInArea_3 ?_
  refine j_iload_n X 0 rfl rfl dX0_setInArea_4 ?_
  refine j_aload_n X 2 rfl rfl dX0_setInArea_5 ?_
  refine j_get X (by decide) (wE_0 _ rfl) rfl awF0 3 (by decide) aw_155 rfl (v := .int (M 12 3)) rfl dX0_setInArea_6 ?_
  refine j_eqi (v := 0) hm ?_
  refine j_icmp_ge X 41 (by decide) dX0_setInArea_9 (fun c_1 => ?_) (fun c_1 => False.elim (by revert c_1; decide))
  refine j_iload_n X 1 rfl rfl dX0_setInArea_41 ?_
  exact j_iret X hr hlocks dX0_setInArea_42 ⟨rfl, rfl⟩
set_option maxRecDepth 100000 in
set_option maxHeartbeats 4000000 in
theorem c_setFree0_12 (l : Launch) (D : va_G) (y : wY) (ad : Nat → Nat) (M : Mem) (hm : M 12 3 = 0) : MI l D y ad yX0_setFree (Cond.code yX0_setFree cX0_setFree 3 (some .int)) 0 M [.ref (ad 12)] (fun r M' => 0 = r ∧ M = M') := by
  refine MI_of (by decide) (Nat.le_of_ble_eq_true rfl) ?_
  intro p e s m args below meth c X hr hlocks
  refine j_lv (lv1 := [(0, .ref (ad 12))]) [0] rfl ?_
  refine j_iconst X (v := 0) (by decide) dX0_setFree_0 ?_
  refine j_istore_n X [(1, .int 0), (0, .ref (ad 12))] rfl (by decide) rfl dX0_setFree_1 ?_
  refine j_iconst X (v := 0) (by decide) dX0_setFree_2 ?_
  refine j_istore_n X [(2, .int 0), (1, .int 0), (0, .ref (ad 12))] rfl (by decide) rfl dX0_setFree_3 ?_
  refine j_iload_n X 0 rfl rfl dX0_setFree_4 ?_
  refine j_aload_n X 2 rfl rfl dX0_setFree_5 ?_
  refine j_get X (by decide) (wE_0 _ rfl) rfl awF0 3 (by decide) aw_155 rfl (v := .int (M 12 3)) rfl dX0_setFree_6 ?_
  refine j_eqi (v := 0) hm ?_
  refine j_icmp_ge X 53 (by decide) dX0_setFree_9 (fun c_1 => ?_) (fun c_1 => False.elim (by revert c_1; decide))
  refine j_iload_n X 1 rfl rfl dX0_setFree_53 ?_
  exact j_iret X hr hlocks dX0_setFree_54 ⟨rfl, rfl⟩
set_option maxRecDepth 100000 in
set_option maxHeartbeats 4000000 in
theorem c_edgesTogether0_12 (l : Launch) (D : va_G) (y : wY) (ad : Nat → Nat) (M : Mem) (hm : M 12 3 = 0) : MI l D y ad yX0_edgesTogether (Cond.code yX0_edgesTogether cX0_edgesTogether 3 (some .int)) 0 M [.ref (ad 12)] (fun r M' => 0 = r ∧ M = M') := by
  refine MI_of (by decide) (Nat.le_of_ble_eq_true rfl) ?_
  intro p e s m args below meth c X hr hlocks
  refine j_lv (lv1 := [(0, .ref (ad 12))]) [0] rfl ?_
  refine j_iconst X (v := 0) (by decide) dX0_edgesTogether_0 ?_
  refine j_istore_n X [(1, .int 0), (0, .ref (ad 12))] rfl (by decide) rfl dX0_edgesTogether_1 ?_
  refine j_iconst X (v := 0) (by decide) dX0_edgesTogether_2 ?_
  refine j_istore_n X [(2, .int 0), (1, .int 0), (0, .ref (ad 12))] rfl (by decide) rfl dX0_edgesTogether_3 ?_
  refine j_iload_n X 0 rfl rfl dX0_edgesTogether_4 ?_
  refine j_aload_n X 2 rfl rfl dX0_edgesTogether_5 ?_
  refine j_get X (by decide) (wE_0 _ rfl) rfl awF0 3 (by decide) aw_155 rfl (v := .int (M 12 3)) rfl dX0_edgesTogether_6 ?_
  refine j_eqi (v := 0) hm ?_
  refine j_icmp_ge X 30 (by decide) dX0_edgesTogether_9 (fun c_1 => ?_) (fun c_1 => False.elim (by revert c_1; decide))
  refine j_iload_n X 1 rfl rfl dX0_edgesTogether_30 ?_
  exact j_iret X hr hlocks dX0_edgesTogether_31 ⟨rfl, rfl⟩
set_option maxRecDepth 100000 in
set_option maxHeartbeats 4000000 in
theorem c_endedMany0_12 (l : Launch) (D : va_G) (y : wY) (ad : Nat → Nat) (M : Mem) (hm : M 12 3 = 0) : MI l D y ad yX0_endedMany (Cond.code yX0_endedMany cX0_endedMany 1 (some .int)) 1 M [.ref (ad 12)] (fun r M' => 0 = r ∧ M = M') := by
  refine MI_of (by decide) (Nat.le_of_ble_eq_true rfl) ?_
  intro p e s m args below meth c X hr hlocks
  refine j_lv (lv1 := [(0, .ref (ad 12))]) [0] rfl ?_
  refine j_aload_n X 0 rfl rfl dX0_endedMany_0 ?_
  refine j_callVI X (nn := 0) (As := []) (st := []) (ci := 0) (by decide) (wE_0 _ rfl) rfl aw_466 aw_467 (c_setEnded0_12 l D y ad M hm) aw_465 aw_468 aw_20 (by decide +kernel) ⟨by decide, by decide⟩ rfl (Nat.le_of_ble_eq_true rfl) ⟨by decide, by decide⟩ dX0_endedMany_1 ?_
  rintro r_ M1_ ⟨rfl, rfl⟩
  refine j_callSI X (nn := 1) (As := [.int 0]) (st := []) aw_470 (c_bitCount0 l D y ad M) aw_469 aw_472 aw_471 (by decide +kernel) ⟨by decide, by decide⟩ rfl (Nat.le_of_ble_eq_true rfl) ⟨by decide, by decide⟩ dX0_endedMany_4 ?_
  rintro r_ M1_ ⟨rfl, rfl⟩
  exact j_iret X hr hlocks dX0_endedMany_7 ⟨rfl, rfl⟩
set_option maxRecDepth 100000 in
set_option maxHeartbeats 4000000 in
theorem c_restDay0_12 (l : Launch) (D : va_G) (y : wY) (ad : Nat → Nat) (M : Mem) (hm : M 12 3 = 0) (b : Int32) : MV l D y ad yX0_restDay (Cond.code yX0_restDay cX0_restDay 2 none) 1 M [.ref (ad 12), .int b] (fun M' => sm (fun b k => b == 12 && (k == 4 || k == 6)) M M') := by
  refine MV_of (by decide) (Nat.le_of_ble_eq_true rfl) ?_
  intro p e s m args below meth c X hr hlocks
  refine j_lv (lv1 := [(0, .ref (ad 12)), (1, .int b)]) [0, 1] rfl ?_
  refine j_aload_n X 0 rfl rfl dX0_restDay_0 ?_
  refine j_iload_n X 1 rfl rfl dX0_restDay_1 ?_
  refine j_callVV X (nn := 1) (As := [.int b]) (st := []) (ci := 0) (by decide) (wE_0 _ rfl) rfl aw_454 aw_455 (c_endOrDull0_12 l D y ad M hm b) aw_453 aw_456 aw_20 (by decide +kernel) ⟨by decide, by decide⟩ rfl (Nat.le_of_ble_eq_true rfl) ⟨by decide, by decide⟩ dX0_restDay_2 ?_
  rintro M1_ rfl
  refine j_aload_n X 0 rfl rfl dX0_restDay_5 ?_
  refine j_aload_n X 0 rfl rfl dX0_restDay_6 ?_
  refine j_get X (by decide) (wE_0 _ rfl) rfl awF0 4 (by decide) aw_124 rfl (v := .int (M 12 4)) rfl dX0_restDay_7 ?_
  refine j_aload_n X 0 rfl rfl dX0_restDay_10 ?_
  refine j_get X (by decide) (wE_0 _ rfl) rfl awF0 5 (by decide) aw_61 rfl (v := .int (M 12 5)) rfl dX0_restDay_11 ?_
  refine j_iadd X dX0_restDay_14 ?_
  refine j_bipush X (v := 10) (by decide) dX0_restDay_15 ?_
  refine j_irem X (by decide) dX0_restDay_17 ?_
  refine j_put X (up M 12 4 (((M 12 4) + (M 12 5)) - ((M 12 4) + (M 12 5)) / 10 * 10)) up_o (by decide) (wE_0 _ rfl) rfl awF0 4 (by decide) (wP_0_4 _ _ rfl) tyX0 tyX0_ok nmX0 rfl (ty := .int) (by decide +kernel) rfl rfl (Nat.le_of_ble_eq_true rfl) aw_124 rfl dX0_restDay_18 ?_
  refine j_aload_n X 0 rfl rfl dX0_restDay_21 ?_
  refine j_dup X rfl dX0_restDay_22 ?_
  refine j_get X (by decide) (wE_0 _ rfl) rfl awF0 6 (by decide) aw_197 rfl (v := .int ((up M 12 4 (((M 12 4) + (M 12 5)) - ((M 12 4) + (M 12 5)) / 10 * 10)) 12 6)) rfl dX0_restDay_23 ?_
  refine j_eqi (v := M 12 6) (by simp [up]) ?_
  refine j_iconst X (v := 1) (by decide) dX0_restDay_26 ?_
  refine j_iadd X dX0_restDay_27 ?_
  refine j_put X (up (up M 12 4 (((M 12 4) + (M 12 5)) - ((M 12 4) + (M 12 5)) / 10 * 10)) 12 6 ((M 12 6) + 1)) up_o (by decide) (wE_0 _ rfl) rfl awF0 6 (by decide) (wP_0_6 _ _ rfl) tyX0 tyX0_ok nmX0 rfl (ty := .int) (by decide +kernel) rfl rfl (Nat.le_of_ble_eq_true rfl) aw_197 rfl dX0_restDay_28 ?_
  exact j_vret X hr hlocks dX0_restDay_31 (sm_up (sm_up sm_rf rfl) rfl)
set_option maxRecDepth 100000 in
set_option maxHeartbeats 4000000 in
theorem c_passDay0_12 (l : Launch) (D : va_G) (y : wY) (ad : Nat → Nat) (M : Mem) (hm : M 12 3 = 0) (b : Int32) : MV l D y ad yX0_passDay (Cond.code yX0_passDay cX0_passDay 2 none) 2 M [.ref (ad 12), .int b] (fun M' => sm (fun b k => b == 12 && (k == 4 || k == 6)) M M') := by
  refine MV_of (by decide) (Nat.le_of_ble_eq_true rfl) ?_
  intro p e s m args below meth c X hr hlocks
  refine j_lv (lv1 := [(0, .ref (ad 12)), (1, .int b)]) [0, 1] rfl ?_
  refine j_aload_n X 0 rfl rfl dX0_passDay_0 ?_
  refine j_callVV X (nn := 0) (As := []) (st := []) (ci := 0) (by decide) (wE_0 _ rfl) rfl aw_443 aw_444 (c_grindArea0_12 l D y ad M hm) aw_442 aw_445 aw_20 (by decide +kernel) ⟨by decide, by decide⟩ rfl (Nat.le_of_ble_eq_true rfl) ⟨by decide, by decide⟩ dX0_passDay_1 ?_
  rintro M1_ rfl
  refine j_aload_n X 0 rfl rfl dX0_passDay_4 ?_
  refine j_iload_n X 1 rfl rfl dX0_passDay_5 ?_
  refine j_callVV X (nn := 1) (As := [.int b]) (st := []) (ci := 0) (by decide) (wE_0 _ rfl) rfl aw_450 aw_451 (c_restDay0_12 l D y ad M hm b) aw_449 aw_452 aw_20 (by decide +kernel) ⟨by decide, by decide⟩ rfl (Nat.le_of_ble_eq_true rfl) ⟨by decide, by decide⟩ dX0_passDay_6 ?_
  rintro M_2 s_1
  exact j_vret X hr hlocks dX0_passDay_9 s_1
set_option maxRecDepth 100000 in
set_option maxHeartbeats 4000000 in
theorem c_grindArea0_49 (l : Launch) (D : va_G) (y : wY) (ad : Nat → Nat) (M : Mem) (hm : M 49 3 = 0) : MV l D y ad yX0_grindArea (Cond.code yX0_grindArea cX0_grindArea 3 none) 0 M [.ref (ad 49)] (fun M' => M = M') := by
  refine MV_of (by decide) (Nat.le_of_ble_eq_true rfl) ?_
  intro p e s m args below meth c X hr hlocks
  refine j_lv (lv1 := [(0, .ref (ad 49))]) [0] rfl ?_
  refine j_iconst X (v := 0) (by decide) dX0_grindArea_0 ?_
  refine j_istore_n X [(1, .int 0), (0, .ref (ad 49))] rfl (by decide) rfl dX0_grindArea_1 ?_
  refine j_iload_n X 0 rfl rfl dX0_grindArea_2 ?_
  refine j_aload_n X 1 rfl rfl dX0_grindArea_3 ?_
  refine j_get X (by decide) (wE_0 _ rfl) rfl awF0 3 (by decide) aw_155 rfl (v := .int (M 49 3)) rfl dX0_grindArea_4 ?_
  refine j_eqi (v := 0) hm ?_
  refine j_icmp_ge X 75 (by decide) dX0_grindArea_7 (fun c_1 => ?_) (fun c_1 => False.elim (by revert c_1; decide))
  exact j_vret X hr hlocks dX0_grindArea_75 rfl
set_option maxRecDepth 100000 in
set_option maxHeartbeats 4000000 in
theorem c_endOrDull0_49 (l : Launch) (D : va_G) (y : wY) (ad : Nat → Nat) (M : Mem) (hm : M 49 3 = 0) (b : Int32) : MV l D y ad yX0_endOrDull (Cond.code yX0_endOrDull cX0_endOrDull 4 none) 0 M [.ref (ad 49), .int b] (fun M' => M = M') := by
  refine MV_of (by decide) (Nat.le_of_ble_eq_true rfl) ?_
  intro p e s m args below meth c X hr hlocks
  refine j_lv (lv1 := [(0, .ref (ad 49)), (1, .int b)]) [0, 1] rfl ?_
  refine j_iconst X (v := 0) (by decide) dX0_endOrDull_0 ?_
  refine j_istore_n X [(2, .int 0), (0, .ref (ad 49)), (1, .int b)] rfl (by decide) rfl dX0_endOrDull_1 ?_
  refine j_iload_n X 0 rfl rfl dX0_endOrDull_2 ?_
  refine j_aload_n X 1 rfl rfl dX0_endOrDull_3 ?_
  refine j_get X (by decide) (wE_0 _ rfl) rfl awF0 3 (by decide) aw_155 rfl (v := .int (M 49 3)) rfl dX0_endOrDull_4 ?_
  refine j_eqi (v := 0) hm ?_
  refine j_icmp_ge X 130 (by decide) dX0_endOrDull_7 (fun c_1 => ?_) (fun c_1 => False.elim (by revert c_1; decide))
  exact j_vret X hr hlocks dX0_endOrDull_130 rfl
set_option maxRecDepth 100000 in
set_option maxHeartbeats 4000000 in
theorem c_setEnded0_49 (l : Launch) (D : va_G) (y : wY) (ad : Nat → Nat) (M : Mem) (hm : M 49 3 = 0) : MI l D y ad yX0_setEnded (Cond.code yX0_setEnded cX0_setEnded 3 (some .int)) 0 M [.ref (ad 49)] (fun r M' => 0 = r ∧ M = M') := by
  refine MI_of (by decide) (Nat.le_of_ble_eq_true rfl) ?_
  intro p e s m args below meth c X hr hlocks
  refine j_lv (lv1 := [(0, .ref (ad 49))]) [0] rfl ?_
  refine j_iconst X (v := 0) (by decide) dX0_setEnded_0 ?_
  refine j_istore_n X [(1, .int 0), (0, .ref (ad 49))] rfl (by decide) rfl dX0_setEnded_1 ?_
  refine j_iconst X (v := 0) (by decide) dX0_setEnded_2 ?_
  refine j_istore_n X [(2, .int 0), (1, .int 0), (0, .ref (ad 49))] rfl (by decide) rfl dX0_setEnded_3 ?_
  refine j_iload_n X 0 rfl rfl dX0_setEnded_4 ?_
  refine j_aload_n X 2 rfl rfl dX0_setEnded_5 ?_
  refine j_get X (by decide) (wE_0 _ rfl) rfl awF0 3 (by decide) aw_155 rfl (v := .int (M 49 3)) rfl dX0_setEnded_6 ?_
  refine j_eqi (v := 0) hm ?_
  refine j_icmp_ge X 40 (by decide) dX0_setEnded_9 (fun c_1 => ?_) (fun c_1 => False.elim (by revert c_1; decide))
  refine j_iload_n X 1 rfl rfl dX0_setEnded_40 ?_
  exact j_iret X hr hlocks dX0_setEnded_41 ⟨rfl, rfl⟩
set_option maxRecDepth 100000 in
set_option maxHeartbeats 4000000 in
theorem c_endedMany0_49 (l : Launch) (D : va_G) (y : wY) (ad : Nat → Nat) (M : Mem) (hm : M 49 3 = 0) : MI l D y ad yX0_endedMany (Cond.code yX0_endedMany cX0_endedMany 1 (some .int)) 1 M [.ref (ad 49)] (fun r M' => 0 = r ∧ M = M') := by
  refine MI_of (by decide) (Nat.le_of_ble_eq_true rfl) ?_
  intro p e s m args below meth c X hr hlocks
  refine j_lv (lv1 := [(0, .ref (ad 49))]) [0] rfl ?_
  refine j_aload_n X 0 rfl rfl dX0_endedMany_0 ?_
  refine j_callVI X (nn := 0) (As := []) (st := []) (ci := 0) (by decide) (wE_0 _ rfl) rfl aw_466 aw_467 (c_setEnded0_49 l D y ad M hm) aw_465 aw_468 aw_20 (by decide +kernel) ⟨by decide, by decide⟩ rfl (Nat.le_of_ble_eq_true rfl) ⟨by decide, by decide⟩ dX0_endedMany_1 ?_
  rintro r_ M1_ ⟨rfl, rfl⟩
  refine j_callSI X (nn := 1) (As := [.int 0]) (st := []) aw_470 (c_bitCount0 l D y ad M) aw_469 aw_472 aw_471 (by decide +kernel) ⟨by decide, by decide⟩ rfl (Nat.le_of_ble_eq_true rfl) ⟨by decide, by decide⟩ dX0_endedMany_4 ?_
  rintro r_ M1_ ⟨rfl, rfl⟩
  exact j_iret X hr hlocks dX0_endedMany_7 ⟨rfl, rfl⟩
set_option maxRecDepth 100000 in
set_option maxHeartbeats 4000000 in
theorem c_restDay0_49 (l : Launch) (D : va_G) (y : wY) (ad : Nat → Nat) (M : Mem) (hm : M 49 3 = 0) (b : Int32) : MV l D y ad yX0_restDay (Cond.code yX0_restDay cX0_restDay 2 none) 1 M [.ref (ad 49), .int b] (fun M' => sm (fun b k => b == 49 && (k == 4 || k == 6)) M M') := by
  refine MV_of (by decide) (Nat.le_of_ble_eq_true rfl) ?_
  intro p e s m args below meth c X hr hlocks
  refine j_lv (lv1 := [(0, .ref (ad 49)), (1, .int b)]) [0, 1] rfl ?_
  refine j_aload_n X 0 rfl rfl dX0_restDay_0 ?_
  refine j_iload_n X 1 rfl rfl dX0_restDay_1 ?_
  refine j_callVV X (nn := 1) (As := [.int b]) (st := []) (ci := 0) (by decide) (wE_0 _ rfl) rfl aw_454 aw_455 (c_endOrDull0_49 l D y ad M hm b) aw_453 aw_456 aw_20 (by decide +kernel) ⟨by decide, by decide⟩ rfl (Nat.le_of_ble_eq_true rfl) ⟨by decide, by decide⟩ dX0_restDay_2 ?_
  rintro M1_ rfl
  refine j_aload_n X 0 rfl rfl dX0_restDay_5 ?_
  refine j_aload_n X 0 rfl rfl dX0_restDay_6 ?_
  refine j_get X (by decide) (wE_0 _ rfl) rfl awF0 4 (by decide) aw_124 rfl (v := .int (M 49 4)) rfl dX0_restDay_7 ?_
  refine j_aload_n X 0 rfl rfl dX0_restDay_10 ?_
  refine j_get X (by decide) (wE_0 _ rfl) rfl awF0 5 (by decide) aw_61 rfl (v := .int (M 49 5)) rfl dX0_restDay_11 ?_
  refine j_iadd X dX0_restDay_14 ?_
  refine j_bipush X (v := 10) (by decide) dX0_restDay_15 ?_
  refine j_irem X (by decide) dX0_restDay_17 ?_
  refine j_put X (up M 49 4 (((M 49 4) + (M 49 5)) - ((M 49 4) + (M 49 5)) / 10 * 10)) up_o (by decide) (wE_0 _ rfl) rfl awF0 4 (by decide) (wP_0_4 _ _ rfl) tyX0 tyX0_ok nmX0 rfl (ty := .int) (by decide +kernel) rfl rfl (Nat.le_of_ble_eq_true rfl) aw_124 rfl dX0_restDay_18 ?_
  refine j_aload_n X 0 rfl rfl dX0_restDay_21 ?_
  refine j_dup X rfl dX0_restDay_22 ?_
  refine j_get X (by decide) (wE_0 _ rfl) rfl awF0 6 (by decide) aw_197 rfl (v := .int ((up M 49 4 (((M 49 4) + (M 49 5)) - ((M 49 4) + (M 49 5)) / 10 * 10)) 49 6)) rfl dX0_restDay_23 ?_
  refine j_eqi (v := M 49 6) (by simp [up]) ?_
  refine j_iconst X (v := 1) (by decide) dX0_restDay_26 ?_
  refine j_iadd X dX0_restDay_27 ?_
  refine j_put X (up (up M 49 4 (((M 49 4) + (M 49 5)) - ((M 49 4) + (M 49 5)) / 10 * 10)) 49 6 ((M 49 6) + 1)) up_o (by decide) (wE_0 _ rfl) rfl awF0 6 (by decide) (wP_0_6 _ _ rfl) tyX0 tyX0_ok nmX0 rfl (ty := .int) (by decide +kernel) rfl rfl (Nat.le_of_ble_eq_true rfl) aw_197 rfl dX0_restDay_28 ?_
  exact j_vret X hr hlocks dX0_restDay_31 (sm_up (sm_up sm_rf rfl) rfl)
set_option maxRecDepth 100000 in
set_option maxHeartbeats 4000000 in
theorem c_passDay0_49 (l : Launch) (D : va_G) (y : wY) (ad : Nat → Nat) (M : Mem) (hm : M 49 3 = 0) (b : Int32) : MV l D y ad yX0_passDay (Cond.code yX0_passDay cX0_passDay 2 none) 2 M [.ref (ad 49), .int b] (fun M' => sm (fun b k => b == 49 && (k == 4 || k == 6)) M M') := by
  refine MV_of (by decide) (Nat.le_of_ble_eq_true rfl) ?_
  intro p e s m args below meth c X hr hlocks
  refine j_lv (lv1 := [(0, .ref (ad 49)), (1, .int b)]) [0, 1] rfl ?_
  refine j_aload_n X 0 rfl rfl dX0_passDay_0 ?_
  refine j_callVV X (nn := 0) (As := []) (st := []) (ci := 0) (by decide) (wE_0 _ rfl) rfl aw_443 aw_444 (c_grindArea0_49 l D y ad M hm) aw_442 aw_445 aw_20 (by decide +kernel) ⟨by decide, by decide⟩ rfl (Nat.le_of_ble_eq_true rfl) ⟨by decide, by decide⟩ dX0_passDay_1 ?_
  rintro M1_ rfl
  refine j_aload_n X 0 rfl rfl dX0_passDay_4 ?_
  refine j_iload_n X 1 rfl rfl dX0_passDay_5 ?_
  refine j_callVV X (nn := 1) (As := [.int b]) (st := []) (ci := 0) (by decide) (wE_0 _ rfl) rfl aw_450 aw_451 (c_restDay0_49 l D y ad M hm b) aw_449 aw_452 aw_20 (by decide +kernel) ⟨by decide, by decide⟩ rfl (Nat.le_of_ble_eq_true rfl) ⟨by decide, by decide⟩ dX0_passDay_6 ?_
  rintro M_2 s_1
  exact j_vret X hr hlocks dX0_passDay_9 s_1
set_option maxRecDepth 100000 in
set_option maxHeartbeats 4000000 in
theorem c_copyFrom0_49 (l : Launch) (D : va_G) (y : wY) (ad : Nat → Nat) (M : Mem) (hm : M 12 3 = 0) : MV l D y ad yX0_copyFrom (Cond.code yX0_copyFrom cX0_copyFrom 3 none) 1 M [.ref (ad 49), .ref (ad 12)] (fun M' => sm (fun b k => b == 49 && (3 ≤ k && k ≤ 8)) M M' ∧ M' 49 3 = M 12 3 ∧ M' 49 7 = M 12 7 ∧ M' 49 8 = M 12 8) := by
  refine MV_of (by decide) (Nat.le_of_ble_eq_true rfl) ?_
  intro p e s m args below meth c X hr hlocks
  refine j_lv (lv1 := [(0, .ref (ad 49)), (1, .ref (ad 12))]) [0, 1] rfl ?_
  refine j_iconst X (v := 0) (by decide) dX0_copyFrom_0 ?_
  refine j_istore_n X [(2, .int 0), (0, .ref (ad 49)), (1, .ref (ad 12))] rfl (by decide) rfl dX0_copyFrom_1 ?_
  refine j_iload_n X 0 rfl rfl dX0_copyFrom_2 ?_
  refine j_aload_n X 2 rfl rfl dX0_copyFrom_3 ?_
  refine j_get X (by decide) (wE_0 _ rfl) rfl awF0 3 (by decide) aw_155 rfl (v := .int (M 12 3)) rfl dX0_copyFrom_4 ?_
  refine j_eqi (v := 0) hm ?_
  refine j_icmp_ge X 31 (by decide) dX0_copyFrom_7 (fun c_1 => ?_) (fun c_1 => False.elim (by revert c_1; decide))
  refine j_aload_n X 1 rfl rfl dX0_copyFrom_31 ?_
  refine j_aload_n X 2 rfl rfl dX0_copyFrom_32 ?_
  refine j_get X (by decide) (wE_0 _ rfl) rfl awF0 3 (by decide) aw_155 rfl (v := .int (M 12 3)) rfl dX0_copyFrom_33 ?_
  refine j_eqi (v := 0) hm ?_
  refine j_put X (up M 49 3 0) up_o (by decide) (wE_0 _ rfl) rfl awF0 3 (by decide) (wP_0_3 _ _ rfl) tyX0 tyX0_ok nmX0 rfl (ty := .int) (by decide +kernel) rfl rfl (Nat.le_of_ble_eq_true rfl) aw_155 rfl dX0_copyFrom_36 ?_
  refine j_aload_n X 1 rfl rfl dX0_copyFrom_39 ?_
  refine j_aload_n X 2 rfl rfl dX0_copyFrom_40 ?_
  refine j_get X (by decide) (wE_0 _ rfl) rfl awF0 4 (by decide) aw_124 rfl (v := .int ((up M 49 3 0) 12 4)) rfl dX0_copyFrom_41 ?_
  refine j_eqi (v := M 12 4) (by simp [up]) ?_
  refine j_put X (up (up M 49 3 0) 49 4 (M 12 4)) up_o (by decide) (wE_0 _ rfl) rfl awF0 4 (by decide) (wP_0_4 _ _ rfl) tyX0 tyX0_ok nmX0 rfl (ty := .int) (by decide +kernel) rfl rfl (Nat.le_of_ble_eq_true rfl) aw_124 rfl dX0_copyFrom_44 ?_
  refine j_aload_n X 1 rfl rfl dX0_copyFrom_47 ?_
  refine j_aload_n X 2 rfl rfl dX0_copyFrom_48 ?_
  refine j_get X (by decide) (wE_0 _ rfl) rfl awF0 5 (by decide) aw_61 rfl (v := .int ((up (up M 49 3 0) 49 4 (M 12 4)) 12 5)) rfl dX0_copyFrom_49 ?_
  refine j_eqi (v := M 12 5) (by simp [up]) ?_
  refine j_put X (up (up (up M 49 3 0) 49 4 (M 12 4)) 49 5 (M 12 5)) up_o (by decide) (wE_0 _ rfl) rfl awF0 5 (by decide) (wP_0_5 _ _ rfl) tyX0 tyX0_ok nmX0 rfl (ty := .int) (by decide +kernel) rfl rfl (Nat.le_of_ble_eq_true rfl) aw_61 rfl dX0_copyFrom_52 ?_
  refine j_aload_n X 1 rfl rfl dX0_copyFrom_55 ?_
  refine j_aload_n X 2 rfl rfl dX0_copyFrom_56 ?_
  refine j_get X (by decide) (wE_0 _ rfl) rfl awF0 6 (by decide) aw_197 rfl (v := .int ((up (up (up M 49 3 0) 49 4 (M 12 4)) 49 5 (M 12 5)) 12 6)) rfl dX0_copyFrom_57 ?_
  refine j_eqi (v := M 12 6) (by simp [up]) ?_
  refine j_put X (up (up (up (up M 49 3 0) 49 4 (M 12 4)) 49 5 (M 12 5)) 49 6 (M 12 6)) up_o (by decide) (wE_0 _ rfl) rfl awF0 6 (by decide) (wP_0_6 _ _ rfl) tyX0 tyX0_ok nmX0 rfl (ty := .int) (by decide +kernel) rfl rfl (Nat.le_of_ble_eq_true rfl) aw_197 rfl dX0_copyFrom_60 ?_
  refine j_aload_n X 1 rfl rfl dX0_copyFrom_63 ?_
  refine j_aload_n X 2 rfl rfl dX0_copyFrom_64 ?_
  refine j_get X (by decide) (wE_0 _ rfl) rfl awF0 7 (by decide) aw_125 rfl (v := .int ((up (up (up (up M 49 3 0) 49 4 (M 12 4)) 49 5 (M 12 5)) 49 6 (M 12 6)) 12 7)) rfl dX0_copyFrom_65 ?_
  refine j_eqi (v := M 12 7) (by simp [up]) ?_
  refine j_put X (up (up (up (up (up M 49 3 0) 49 4 (M 12 4)) 49 5 (M 12 5)) 49 6 (M 12 6)) 49 7 (M 12 7)) up_o (by decide) (wE_0 _ rfl) rfl awF0 7 (by decide) (wP_0_7 _ _ rfl) tyX0 tyX0_ok nmX0 rfl (ty := .int) (by decide +kernel) rfl rfl (Nat.le_of_ble_eq_true rfl) aw_125 rfl dX0_copyFrom_68 ?_
  refine j_aload_n X 1 rfl rfl dX0_copyFrom_71 ?_
  refine j_aload_n X 2 rfl rfl dX0_copyFrom_72 ?_
  refine j_get X (by decide) (wE_0 _ rfl) rfl awF0 8 (by decide) aw_126 rfl (v := .int ((up (up (up (up (up M 49 3 0) 49 4 (M 12 4)) 49 5 (M 12 5)) 49 6 (M 12 6)) 49 7 (M 12 7)) 12 8)) rfl dX0_copyFrom_73 ?_
  refine j_eqi (v := M 12 8) (by simp [up]) ?_
  refine j_put X (up (up (up (up (up (up M 49 3 0) 49 4 (M 12 4)) 49 5 (M 12 5)) 49 6 (M 12 6)) 49 7 (M 12 7)) 49 8 (M 12 8)) up_o (by decide) (wE_0 _ rfl) rfl awF0 8 (by decide) (wP_0_8 _ _ rfl) tyX0 tyX0_ok nmX0 rfl (ty := .int) (by decide +kernel) rfl rfl (Nat.le_of_ble_eq_true rfl) aw_126 rfl dX0_copyFrom_76 ?_
  exact j_vret X hr hlocks dX0_copyFrom_79 ⟨sm_up (sm_up (sm_up (sm_up (sm_up (sm_up sm_rf rfl) rfl) rfl) rfl) rfl) rfl, by simp [up, hm], by simp [up], by simp [up]⟩
set_option maxRecDepth 100000 in
set_option maxHeartbeats 4000000 in
theorem c_copyFrom0_36 (l : Launch) (D : va_G) (y : wY) (ad : Nat → Nat) (M : Mem) (hm : M 12 3 = 0) : MV l D y ad yX0_copyFrom (Cond.code yX0_copyFrom cX0_copyFrom 3 none) 1 M [.ref (ad 36), .ref (ad 12)] (fun M' => sm (fun b k => b == 36 && (3 ≤ k && k ≤ 8)) M M' ∧ M' 36 3 = M 12 3 ∧ M' 36 7 = M 12 7 ∧ M' 36 8 = M 12 8) := by
  refine MV_of (by decide) (Nat.le_of_ble_eq_true rfl) ?_
  intro p e s m args below meth c X hr hlocks
  refine j_lv (lv1 := [(0, .ref (ad 36)), (1, .ref (ad 12))]) [0, 1] rfl ?_
  refine j_iconst X (v := 0) (by decide) dX0_copyFrom_0 ?_
  refine j_istore_n X [(2, .int 0), (0, .ref (ad 36)), (1, .ref (ad 12))] rfl (by decide) rfl dX0_copyFrom_1 ?_
  refine j_iload_n X 0 rfl rfl dX0_copyFrom_2 ?_
  refine j_aload_n X 2 rfl rfl dX0_copyFrom_3 ?_
  refine j_get X (by decide) (wE_0 _ rfl) rfl awF0 3 (by decide) aw_155 rfl (v := .int (M 12 3)) rfl dX0_copyFrom_4 ?_
  refine j_eqi (v := 0) hm ?_
  refine j_icmp_ge X 31 (by decide) dX0_copyFrom_7 (fun c_1 => ?_) (fun c_1 => False.elim (by revert c_1; decide))
  refine j_aload_n X 1 rfl rfl dX0_copyFrom_31 ?_
  refine j_aload_n X 2 rfl rfl dX0_copyFrom_32 ?_
  refine j_get X (by decide) (wE_0 _ rfl) rfl awF0 3 (by decide) aw_155 rfl (v := .int (M 12 3)) rfl dX0_copyFrom_33 ?_
  refine j_eqi (v := 0) hm ?_
  refine j_put X (up M 36 3 0) up_o (by decide) (wE_0 _ rfl) rfl awF0 3 (by decide) (wP_0_3 _ _ rfl) tyX0 tyX0_ok nmX0 rfl (ty := .int) (by decide +kernel) rfl rfl (Nat.le_of_ble_eq_true rfl) aw_155 rfl dX0_copyFrom_36 ?_
  refine j_aload_n X 1 rfl rfl dX0_copyFrom_39 ?_
  refine j_aload_n X 2 rfl rfl dX0_copyFrom_40 ?_
  refine j_get X (by decide) (wE_0 _ rfl) rfl awF0 4 (by decide) aw_124 rfl (v := .int ((up M 36 3 0) 12 4)) rfl dX0_copyFrom_41 ?_
  refine j_eqi (v := M 12 4) (by simp [up]) ?_
  refine j_put X (up (up M 36 3 0) 36 4 (M 12 4)) up_o (by decide) (wE_0 _ rfl) rfl awF0 4 (by decide) (wP_0_4 _ _ rfl) tyX0 tyX0_ok nmX0 rfl (ty := .int) (by decide +kernel) rfl rfl (Nat.le_of_ble_eq_true rfl) aw_124 rfl dX0_copyFrom_44 ?_
  refine j_aload_n X 1 rfl rfl dX0_copyFrom_47 ?_
  refine j_aload_n X 2 rfl rfl dX0_copyFrom_48 ?_
  refine j_get X (by decide) (wE_0 _ rfl) rfl awF0 5 (by decide) aw_61 rfl (v := .int ((up (up M 36 3 0) 36 4 (M 12 4)) 12 5)) rfl dX0_copyFrom_49 ?_
  refine j_eqi (v := M 12 5) (by simp [up]) ?_
  refine j_put X (up (up (up M 36 3 0) 36 4 (M 12 4)) 36 5 (M 12 5)) up_o (by decide) (wE_0 _ rfl) rfl awF0 5 (by decide) (wP_0_5 _ _ rfl) tyX0 tyX0_ok nmX0 rfl (ty := .int) (by decide +kernel) rfl rfl (Nat.le_of_ble_eq_true rfl) aw_61 rfl dX0_copyFrom_52 ?_
  refine j_aload_n X 1 rfl rfl dX0_copyFrom_55 ?_
  refine j_aload_n X 2 rfl rfl dX0_copyFrom_56 ?_
  refine j_get X (by decide) (wE_0 _ rfl) rfl awF0 6 (by decide) aw_197 rfl (v := .int ((up (up (up M 36 3 0) 36 4 (M 12 4)) 36 5 (M 12 5)) 12 6)) rfl dX0_copyFrom_57 ?_
  refine j_eqi (v := M 12 6) (by simp [up]) ?_
  refine j_put X (up (up (up (up M 36 3 0) 36 4 (M 12 4)) 36 5 (M 12 5)) 36 6 (M 12 6)) up_o (by decide) (wE_0 _ rfl) rfl awF0 6 (by decide) (wP_0_6 _ _ rfl) tyX0 tyX0_ok nmX0 rfl (ty := .int) (by decide +kernel) rfl rfl (Nat.le_of_ble_eq_true rfl) aw_197 rfl dX0_copyFrom_60 ?_
  refine j_aload_n X 1 rfl rfl dX0_copyFrom_63 ?_
  refine j_aload_n X 2 rfl rfl dX0_copyFrom_64 ?_
  refine j_get X (by decide) (wE_0 _ rfl) rfl awF0 7 (by decide) aw_125 rfl (v := .int ((up (up (up (up M 36 3 0) 36 4 (M 12 4)) 36 5 (M 12 5)) 36 6 (M 12 6)) 12 7)) rfl dX0_copyFrom_65 ?_
  refine j_eqi (v := M 12 7) (by simp [up]) ?_
  refine j_put X (up (up (up (up (up M 36 3 0) 36 4 (M 12 4)) 36 5 (M 12 5)) 36 6 (M 12 6)) 36 7 (M 12 7)) up_o (by decide) (wE_0 _ rfl) rfl awF0 7 (by decide) (wP_0_7 _ _ rfl) tyX0 tyX0_ok nmX0 rfl (ty := .int) (by decide +kernel) rfl rfl (Nat.le_of_ble_eq_true rfl) aw_125 rfl dX0_copyFrom_68 ?_
  refine j_aload_n X 1 rfl rfl dX0_copyFrom_71 ?_
  refine j_aload_n X 2 rfl rfl dX0_copyFrom_72 ?_
  refine j_get X (by decide) (wE_0 _ rfl) rfl awF0 8 (by decide) aw_126 rfl (v := .int ((up (up (up (up (up M 36 3 0) 36 4 (M 12 4)) 36 5 (M 12 5)) 36 6 (M 12 6)) 36 7 (M 12 7)) 12 8)) rfl dX0_copyFrom_73 ?_
  refine j_eqi (v := M 12 8) (by simp [up]) ?_
  refine j_put X (up (up (up (up (up (up M 36 3 0) 36 4 (M 12 4)) 36 5 (M 12 5)) 36 6 (M 12 6)) 36 7 (M 12 7)) 36 8 (M 12 8)) up_o (by decide) (wE_0 _ rfl) rfl awF0 8 (by decide) (wP_0_8 _ _ rfl) tyX0 tyX0_ok nmX0 rfl (ty := .int) (by decide +kernel) rfl rfl (Nat.le_of_ble_eq_true rfl) aw_126 rfl dX0_copyFrom_76 ?_
  exact j_vret X hr hlocks dX0_copyFrom_79 ⟨sm_up (sm_up (sm_up (sm_up (sm_up (sm_up sm_rf rfl) rfl) rfl) rfl) rfl) rfl, by simp [up, hm], by simp [up], by simp [up]⟩
end
section
def Z0 (M : Mem) : Prop := M 12 3 = 0 ∧ M 12 4 = 0 ∧ M 12 5 = 1 ∧ M 12 6 = 0 ∧ M 12 7 = 0 ∧ M 12 8 = 0 ∧ M 1 5 = 0 ∧ M 1 6 = 0 ∧ M 1 7 = 1 ∧ M 67 1 = 0 ∧ M 0 7 = 0 ∧ M 70 1 = 0 ∧ M 72 1 = 0 ∧ M 74 1 = 0 ∧ M 76 1 = 0 ∧ M 2 4 = 0 ∧ M 2 5 = 0 ∧ M 7 4 = 1 ∧ M 7 5 = 0 ∧ M 78 1 = 0 ∧ M 78 2 = 0 ∧ M 78 3 = 0 ∧ M 78 4 = 0 ∧ M 78 5 = 0
def Z1 (M : Mem) : Prop := M 80 0 = 0 ∧ M 80 1 = 1 ∧ M 80 2 = 0 ∧ M 80 3 = 0 ∧ M 80 4 = 0 ∧ M 80 5 = (-1) ∧ M 80 6 = (-1) ∧ M 80 7 = 0 ∧ M 80 8 = 1 ∧ M 80 9 = 0 ∧ M 80 10 = 0 ∧ M 79 3 = 0 ∧ M 79 4 = 0 ∧ M 79 20 = 0 ∧ M 87 0 = 0 ∧ M 87 1 = 0 ∧ M 87 2 = 0 ∧ M 87 3 = 0 ∧ M 83 1 = 0 ∧ M 83 2 = 0 ∧ M 83 3 = 0 ∧ M 83 4 = 0 ∧ M 83 5 = 0
def sp_set (what v : Int32) : Int32 := if ((0 ≤ what.toInt ∧ what.toInt ≤ 1) ∧ (0 ≤ v.toInt ∧ v.toInt ≤ 9)) ∨ ((2 ≤ what.toInt ∧ what.toInt ≤ 3) ∧ (0 ≤ v.toInt ∧ v.toInt ≤ 99999)) then (if what.toInt = 1 then 1 else 0) else (-1000000001)
def sp_inArea (a : Int32) : Int32 := if (0 ≤ a.toInt ∧ a.toInt ≤ 9) then 0 else (-1000000001)
def sp_quarrel (km a e o : Int32) : Int32 := if (0 ≤ km.toInt ∧ km.toInt ≤ 69) ∧ (0 ≤ a.toInt ∧ a.toInt ≤ 9) ∧ (0 ≤ e.toInt ∧ e.toInt ≤ 99) ∧ o.toInt = -1 then 0 else (-1000000001)
def sp_ofQuarrel (q what : Int32) : Int32 := (-1000000001)
def sp_change (q what v : Int32) : Int32 := (-1000000001)
def sp_become (q km : Int32) : Int32 := (-1000000001)
def sp_as (q kind : Int32) : Int32 := (-1000000001)
def sp_text (u : Int32) : Int32 := if (0 ≤ u.toInt ∧ u.toInt ≤ 1) then (-10) else (-1000000001)
def sp_law (u a b c : Int32) : Int32 := if (0 ≤ u.toInt ∧ u.toInt ≤ 1) then (if u.toInt = 0 then 20 else if 9 - a / 11 < 0 then 0 else if 99 < 9 - a / 11 then 99 else 9 - a / 11) else (-1000000001)
def sp_days (n : Int32) : Int32 := if (1 ≤ n.toInt ∧ n.toInt ≤ 60) then 0 else (-1000000001)
def sp_loose (n : Int32) : Int32 := if (1 ≤ n.toInt ∧ n.toInt ≤ 40) then 0 else (-1000000001)
def sp_then (n q what : Int32) : Int32 := (-1000000001)
def sp_when (q : Int32) : Int32 := (-1000000001)
def sp_ended (n : Int32) : Int32 := if (0 ≤ n.toInt ∧ n.toInt ≤ 60) then 0 else (-1000000001)
def sp_start (n what : Int32) : Int32 := if (0 ≤ n.toInt ∧ n.toInt ≤ 60) ∧ (0 ≤ what.toInt ∧ what.toInt ≤ 1) then 0 else (-1000000001)
def sp_pace (n what : Int32) : Int32 := if (0 ≤ n.toInt ∧ n.toInt ≤ 60) ∧ (0 ≤ what.toInt ∧ what.toInt ≤ 1) then 0 else (-1000000001)
def sp_hand (q n : Int32) : Int32 := (-1000000001)
def sp_first (n what : Int32) : Int32 := if (0 ≤ n.toInt ∧ n.toInt ≤ 60) ∧ (0 ≤ what.toInt ∧ what.toInt ≤ 1) then (-1000000002) else (-1000000001)
def sp_sparks (s what : Int32) : Int32 := if (0 ≤ s.toInt ∧ s.toInt ≤ 3) ∧ (0 ≤ what.toInt ∧ what.toInt ≤ 1) then (-1000000002) else (-1000000001)
def sp_last (what : Int32) : Int32 := if (0 ≤ what.toInt ∧ what.toInt ≤ 1) then (-1000000002) else (-1000000001)
def sp_sharp (q n : Int32) : Int32 := (-1000000001)
def sp_off (n : Int32) : Int32 := if (0 ≤ n.toInt ∧ n.toInt ≤ 60) then 0 else (-1000000001)
def sp_chain (q : Int32) : Int32 := (-1000000001)
def sp_fee (n : Int32) : Int32 := if (0 ≤ n.toInt ∧ n.toInt ≤ 60) then 0 else (-1000000001)
def sp_free : Int32 := 0
def sp_odds (q n part : Int32) : Int32 := (-1000000001)
def sp_seed (v : Int32) : Int32 := 1
def sp_voice (q act x : Int32) : Int32 := (-1000000001)
def sp_trace (i : Int32) : Int32 := (-1000000002)
def sp_sheet (s bits n : Int32) : Int32 := if (0 ≤ s.toInt ∧ s.toInt ≤ 3) ∧ (bits.toInt = 0 ∨ bits.toInt = 8 ∨ bits.toInt = 16 ∨ bits.toInt = 32) then (if bits.toInt ≠ 0 ∧ n.toInt < 0 then (-1000000003) else if bits.toInt ≠ 0 ∧ 40 < n.toInt then (-1000000001) else 1) else (-1000000001)
def sp_put (s i v : Int32) : Int32 := if (0 ≤ s.toInt ∧ s.toInt ≤ 3) then (-1000000002) else (-1000000001)
def sp_move (s i o j n : Int32) : Int32 := if (0 ≤ s.toInt ∧ s.toInt ≤ 3) ∧ (0 ≤ o.toInt ∧ o.toInt ≤ 3) then (-1000000002) else (-1000000001)
def sp_edges (s : Int32) : Int32 := if (0 ≤ s.toInt ∧ s.toInt ≤ 3) then (-1000000002) else (-1000000001)
def sp_judge (s : Int32) : Int32 := if (0 ≤ s.toInt ∧ s.toInt ≤ 3) then (-1000000002) else (-1000000001)
def sp_image : Int32 := 1
def sp_restore : Int32 := (-1000000002)
def sp_tell (v : Int32) : Int32 := 1
def sp_check : Int32 := 0
def sp_count (what : Int32) : Int32 := if what.toInt = 3 ∨ what.toInt = 11 then 1 else if 0 ≤ what.toInt ∧ what.toInt ≤ 10 then 0 else (-1000000001)
def sp_told (i : Int32) : Int32 := if (1 ≤ i.toInt ∧ i.toInt ≤ 5) then 0 else (-1000000001)
def sp_feed (w : Int64) (n : Int32) : Int32 := if (1 ≤ n.toInt ∧ n.toInt ≤ 8) then n else (-1000000001)
theorem is_1_5 {x : Int32} (h : 1 ≤ x.toInt ∧ x.toInt ≤ 5) : x = 1 ∨ x = 2 ∨ x = 3 ∨ x = 4 ∨ x = 5 := by
  rcases (by omega : x.toInt = 1 ∨ x.toInt = 2 ∨ x.toInt = 3 ∨ x.toInt = 4 ∨ x.toInt = 5) with e | e | e | e | e
  · exact Or.inl (Int32.toInt_inj.mp (e.trans (by decide)))
  · exact Or.inr (Or.inl (Int32.toInt_inj.mp (e.trans (by decide))))
  · exact Or.inr (Or.inr (Or.inl (Int32.toInt_inj.mp (e.trans (by decide)))))
  · exact Or.inr (Or.inr (Or.inr (Or.inl (Int32.toInt_inj.mp (e.trans (by decide))))))
  · exact Or.inr (Or.inr (Or.inr (Or.inr (Int32.toInt_inj.mp (e.trans (by decide))))))
theorem is_0_3 {x : Int32} (h : 0 ≤ x.toInt ∧ x.toInt ≤ 3) : x = 0 ∨ x = 1 ∨ x = 2 ∨ x = 3 := by
  rcases (by omega : x.toInt = 0 ∨ x.toInt = 1 ∨ x.toInt = 2 ∨ x.toInt = 3) with e | e | e | e
  · exact Or.inl (Int32.toInt_inj.mp (e.trans (by decide)))
  · exact Or.inr (Or.inl (Int32.toInt_inj.mp (e.trans (by decide))))
  · exact Or.inr (Or.inr (Or.inl (Int32.toInt_inj.mp (e.trans (by decide)))))
  · exact Or.inr (Or.inr (Or.inr (Int32.toInt_inj.mp (e.trans (by decide)))))
theorem nI_ti {j n : Nat} (h : j ≤ n) (hn : n < 2 ^ 31) : (nI j).toInt = (j : Int) := nI_toInt (by omega)
theorem clamp1 (v : Int32) : (if 0 < (if v < 99 then v else 99) then (if v < 99 then v else 99) else 0) = (if v < 0 then 0 else if 99 < v then 99 else v) := by
  have e0 : (0 : Int32).toInt = 0 := by decide
  have e9 : (99 : Int32).toInt = 99 := by decide
  by_cases h1 : v < 99
  · have q1 := ti_lt (a := v.toInt) (b := 99) rfl e9 h1
    have n9 : ¬ (99 : Int32) < v := fun h => by have := ti_lt (a := 99) (b := v.toInt) e9 rfl h; omega
    simp only [if_pos h1, if_neg n9]
    by_cases h2 : v < 0
    · have q2 := ti_lt (a := v.toInt) (b := 0) rfl e0 h2
      have n0 : ¬ (0 : Int32) < v := fun h => by have := ti_lt (a := 0) (b := v.toInt) e0 rfl h; omega
      simp only [if_pos h2, if_neg n0]
    · have q2 := ti_nlt (a := v.toInt) (b := 0) rfl e0 h2
      simp only [if_neg h2]
      by_cases h3 : 0 < v
      · simp only [if_pos h3]
      · have q3 := ti_nlt (a := 0) (b := v.toInt) e0 rfl h3
        simp only [if_neg h3]
        exact Int32.toInt_inj.mp (by omega)
  · have q1 := ti_nlt (a := v.toInt) (b := 99) rfl e9 h1
    have n0 : ¬ v < 0 := fun h => by have := ti_lt (a := v.toInt) (b := 0) rfl e0 h; omega
    have p0 : (0 : Int32) < 99 := by decide
    simp only [if_neg h1, if_pos p0, if_neg n0]
    by_cases h3 : 99 < v
    · simp only [if_pos h3]
    · have q3 := ti_nlt (a := 99) (b := v.toInt) e9 rfl h3
      simp only [if_neg h3]
      exact Int32.toInt_inj.mp (by omega)
def clampI (v : Int32) : Int32 := if v < 0 then 0 else if 99 < v then 99 else v
end
section
theorem dX7_mostOfGrinder_0 : decode cX7_mostOfGrinder 0 = .ok (.iload_n 0, 1) := by decide +kernel
theorem dX7_mostOfGrinder_1 : decode cX7_mostOfGrinder 1 = .ok (.tableswitch 37 0 2 #[27, 30, 33], 27) := by decide +kernel
theorem dX7_mostOfGrinder_28 : decode cX7_mostOfGrinder 28 = .ok (.bipush 9, 2) := by decide +kernel
theorem dX7_mostOfGrinder_30 : decode cX7_mostOfGrinder 30 = .ok (.ireturn, 1) := by decide +kernel
theorem dX7_mostOfGrinder_31 : decode cX7_mostOfGrinder 31 = .ok (.bipush 9, 2) := by decide +kernel
theorem dX7_mostOfGrinder_33 : decode cX7_mostOfGrinder 33 = .ok (.ireturn, 1) := by decide +kernel
theorem dX7_mostOfGrinder_34 : decode cX7_mostOfGrinder 34 = .ok (.ldc_w 314, 3) := by decide +kernel
theorem dX7_mostOfGrinder_37 : decode cX7_mostOfGrinder 37 = .ok (.ireturn, 1) := by decide +kernel
theorem dX7_mostOfGrinder_38 : decode cX7_mostOfGrinder 38 = .ok (.ldc_w 314, 3) := by decide +kernel
theorem dX7_mostOfGrinder_41 : decode cX7_mostOfGrinder 41 = .ok (.ireturn, 1) := by decide +kernel
theorem dX0_setGrinder_0 : decode cX0_setGrinder 0 = .ok (.iload_n 1, 1) := by decide +kernel
theorem dX0_setGrinder_1 : decode cX0_setGrinder 1 = .ok (.tableswitch 63 0 2 #[27, 39, 51], 27) := by decide +kernel
theorem dX0_setGrinder_28 : decode cX0_setGrinder 28 = .ok (.aload_n 0, 1) := by decide +kernel
theorem dX0_setGrinder_29 : decode cX0_setGrinder 29 = .ok (.getfield 36, 3) := by decide +kernel
theorem dX0_setGrinder_32 : decode cX0_setGrinder 32 = .ok (.istore_n 3, 1) := by decide +kernel
theorem dX0_setGrinder_33 : decode cX0_setGrinder 33 = .ok (.aload_n 0, 1) := by decide +kernel
theorem dX0_setGrinder_34 : decode cX0_setGrinder 34 = .ok (.iload_n 2, 1) := by decide +kernel
theorem dX0_setGrinder_35 : decode cX0_setGrinder 35 = .ok (.putfield 36, 3) := by decide +kernel
theorem dX0_setGrinder_38 : decode cX0_setGrinder 38 = .ok (.iload_n 3, 1) := by decide +kernel
theorem dX0_setGrinder_39 : decode cX0_setGrinder 39 = .ok (.ireturn, 1) := by decide +kernel
theorem dX0_setGrinder_40 : decode cX0_setGrinder 40 = .ok (.aload_n 0, 1) := by decide +kernel
theorem dX0_setGrinder_41 : decode cX0_setGrinder 41 = .ok (.getfield 17, 3) := by decide +kernel
theorem dX0_setGrinder_44 : decode cX0_setGrinder 44 = .ok (.istore_n 3, 1) := by decide +kernel
theorem dX0_setGrinder_45 : decode cX0_setGrinder 45 = .ok (.aload_n 0, 1) := by decide +kernel
theorem dX0_setGrinder_46 : decode cX0_setGrinder 46 = .ok (.iload_n 2, 1) := by decide +kernel
theorem dX0_setGrinder_47 : decode cX0_setGrinder 47 = .ok (.putfield 17, 3) := by decide +kernel
theorem dX0_setGrinder_50 : decode cX0_setGrinder 50 = .ok (.iload_n 3, 1) := by decide +kernel
theorem dX0_setGrinder_51 : decode cX0_setGrinder 51 = .ok (.ireturn, 1) := by decide +kernel
theorem dX0_setGrinder_52 : decode cX0_setGrinder 52 = .ok (.aload_n 0, 1) := by decide +kernel
theorem dX0_setGrinder_53 : decode cX0_setGrinder 53 = .ok (.getfield 42, 3) := by decide +kernel
theorem dX0_setGrinder_56 : decode cX0_setGrinder 56 = .ok (.istore_n 3, 1) := by decide +kernel
theorem dX0_setGrinder_57 : decode cX0_setGrinder 57 = .ok (.aload_n 0, 1) := by decide +kernel
theorem dX0_setGrinder_58 : decode cX0_setGrinder 58 = .ok (.iload_n 2, 1) := by decide +kernel
theorem dX0_setGrinder_59 : decode cX0_setGrinder 59 = .ok (.putfield 42, 3) := by decide +kernel
theorem dX0_setGrinder_62 : decode cX0_setGrinder 62 = .ok (.iload_n 3, 1) := by decide +kernel
theorem dX0_setGrinder_63 : decode cX0_setGrinder 63 = .ok (.ireturn, 1) := by decide +kernel
theorem dX0_setGrinder_64 : decode cX0_setGrinder 64 = .ok (.aload_n 0, 1) := by decide +kernel
theorem dX0_setGrinder_65 : decode cX0_setGrinder 65 = .ok (.getfield 45, 3) := by decide +kernel
theorem dX0_setGrinder_68 : decode cX0_setGrinder 68 = .ok (.istore_n 3, 1) := by decide +kernel
theorem dX0_setGrinder_69 : decode cX0_setGrinder 69 = .ok (.aload_n 0, 1) := by decide +kernel
theorem dX0_setGrinder_70 : decode cX0_setGrinder 70 = .ok (.iload_n 2, 1) := by decide +kernel
theorem dX0_setGrinder_71 : decode cX0_setGrinder 71 = .ok (.putfield 45, 3) := by decide +kernel
theorem dX0_setGrinder_74 : decode cX0_setGrinder 74 = .ok (.iload_n 3, 1) := by decide +kernel
theorem dX0_setGrinder_75 : decode cX0_setGrinder 75 = .ok (.ireturn, 1) := by decide +kernel
theorem dX7_isQuarrel_0 : decode cX7_isQuarrel 0 = .ok (.iload_n 1, 1) := by decide +kernel
theorem dX7_isQuarrel_1 : decode cX7_isQuarrel 1 = .ok (.iconst 0, 1) := by decide +kernel
theorem dX7_isQuarrel_2 : decode cX7_isQuarrel 2 = .ok (.aload_n 0, 1) := by decide +kernel
theorem dX7_isQuarrel_3 : decode cX7_isQuarrel 3 = .ok (.getfield 12, 3) := by decide +kernel
theorem dX7_isQuarrel_6 : decode cX7_isQuarrel 6 = .ok (.getfield 72, 3) := by decide +kernel
theorem dX7_isQuarrel_9 : decode cX7_isQuarrel 9 = .ok (.getfield 86, 3) := by decide +kernel
theorem dX7_isQuarrel_12 : decode cX7_isQuarrel 12 = .ok (.iconst 1, 1) := by decide +kernel
theorem dX7_isQuarrel_13 : decode cX7_isQuarrel 13 = .ok (.isub, 1) := by decide +kernel
theorem dX7_isQuarrel_14 : decode cX7_isQuarrel 14 = .ok (.invokestatic 60, 3) := by decide +kernel
theorem dX7_isQuarrel_17 : decode cX7_isQuarrel 17 = .ok (.ireturn, 1) := by decide +kernel
theorem dX7_isKindAndM_0 : decode cX7_isKindAndM 0 = .ok (.iload_n 0, 1) := by decide +kernel
theorem dX7_isKindAndM_1 : decode cX7_isKindAndM 1 = .ok (.iconst 0, 1) := by decide +kernel
theorem dX7_isKindAndM_2 : decode cX7_isKindAndM 2 = .ok (.bipush 69, 2) := by decide +kernel
theorem dX7_isKindAndM_4 : decode cX7_isKindAndM 4 = .ok (.invokestatic 60, 3) := by decide +kernel
theorem dX7_isKindAndM_7 : decode cX7_isKindAndM 7 = .ok (.ireturn, 1) := by decide +kernel
theorem dX7_isSheet_0 : decode cX7_isSheet 0 = .ok (.iload_n 0, 1) := by decide +kernel
theorem dX7_isSheet_1 : decode cX7_isSheet 1 = .ok (.iconst 0, 1) := by decide +kernel
theorem dX7_isSheet_2 : decode cX7_isSheet 2 = .ok (.iconst 3, 1) := by decide +kernel
theorem dX7_isSheet_3 : decode cX7_isSheet 3 = .ok (.invokestatic 60, 3) := by decide +kernel
theorem dX7_isSheet_6 : decode cX7_isSheet 6 = .ok (.ireturn, 1) := by decide +kernel
theorem dX7_ofQuarrel_0 : decode cX7_ofQuarrel 0 = .ok (.aload_n 0, 1) := by decide +kernel
theorem dX7_ofQuarrel_1 : decode cX7_ofQuarrel 1 = .ok (.iload_n 1, 1) := by decide +kernel
theorem dX7_ofQuarrel_2 : decode cX7_ofQuarrel 2 = .ok (.invokevirtual 117, 3) := by decide +kernel
theorem dX7_ofQuarrel_5 : decode cX7_ofQuarrel 5 = .ok (.ifCond .eq 13, 3) := by decide +kernel
theorem dX7_ofQuarrel_18 : decode cX7_ofQuarrel 18 = .ok (.aload_n 0, 1) := by decide +kernel
theorem dX7_ofQuarrel_19 : decode cX7_ofQuarrel 19 = .ok (.ldc 68, 2) := by decide +kernel
theorem dX7_ofQuarrel_21 : decode cX7_ofQuarrel 21 = .ok (.invokevirtual 69, 3) := by decide +kernel
theorem dX7_ofQuarrel_24 : decode cX7_ofQuarrel 24 = .ok (.ireturn, 1) := by decide +kernel
theorem dX7_change_0 : decode cX7_change 0 = .ok (.aload_n 0, 1) := by decide +kernel
theorem dX7_change_1 : decode cX7_change 1 = .ok (.iload_n 1, 1) := by decide +kernel
theorem dX7_change_2 : decode cX7_change 2 = .ok (.invokevirtual 117, 3) := by decide +kernel
theorem dX7_change_5 : decode cX7_change 5 = .ok (.ifCond .eq 24, 3) := by decide +kernel
theorem dX7_change_29 : decode cX7_change 29 = .ok (.aload_n 0, 1) := by decide +kernel
theorem dX7_change_30 : decode cX7_change 30 = .ok (.ldc 68, 2) := by decide +kernel
theorem dX7_change_32 : decode cX7_change 32 = .ok (.invokevirtual 69, 3) := by decide +kernel
theorem dX7_change_35 : decode cX7_change 35 = .ok (.ireturn, 1) := by decide +kernel
theorem dX7_become_0 : decode cX7_become 0 = .ok (.aload_n 0, 1) := by decide +kernel
theorem dX7_become_1 : decode cX7_become 1 = .ok (.iload_n 1, 1) := by decide +kernel
theorem dX7_become_2 : decode cX7_become 2 = .ok (.invokevirtual 117, 3) := by decide +kernel
theorem dX7_become_5 : decode cX7_become 5 = .ok (.ifCond .eq 10, 3) := by decide +kernel
theorem dX7_become_15 : decode cX7_become 15 = .ok (.aload_n 0, 1) := by decide +kernel
theorem dX7_become_16 : decode cX7_become 16 = .ok (.ldc 68, 2) := by decide +kernel
theorem dX7_become_18 : decode cX7_become 18 = .ok (.invokevirtual 69, 3) := by decide +kernel
theorem dX7_become_21 : decode cX7_become 21 = .ok (.ireturn, 1) := by decide +kernel
theorem dX7_as_0 : decode cX7_as 0 = .ok (.aload_n 0, 1) := by decide +kernel
theorem dX7_as_1 : decode cX7_as 1 = .ok (.iload_n 1, 1) := by decide +kernel
theorem dX7_as_2 : decode cX7_as 2 = .ok (.invokevirtual 117, 3) := by decide +kernel
theorem dX7_as_5 : decode cX7_as 5 = .ok (.ifCond .eq 13, 3) := by decide +kernel
theorem dX7_as_18 : decode cX7_as 18 = .ok (.aload_n 0, 1) := by decide +kernel
theorem dX7_as_19 : decode cX7_as 19 = .ok (.ldc 68, 2) := by decide +kernel
theorem dX7_as_21 : decode cX7_as 21 = .ok (.invokevirtual 69, 3) := by decide +kernel
theorem dX7_as_24 : decode cX7_as 24 = .ok (.ireturn, 1) := by decide +kernel
theorem dX7_when_0 : decode cX7_when 0 = .ok (.aload_n 0, 1) := by decide +kernel
theorem dX7_when_1 : decode cX7_when 1 = .ok (.iload_n 1, 1) := by decide +kernel
theorem dX7_when_2 : decode cX7_when 2 = .ok (.invokevirtual 117, 3) := by decide +kernel
theorem dX7_when_5 : decode cX7_when 5 = .ok (.ifCond .ne 10, 3) := by decide +kernel
theorem dX7_when_8 : decode cX7_when 8 = .ok (.aload_n 0, 1) := by decide +kernel
theorem dX7_when_9 : decode cX7_when 9 = .ok (.ldc 68, 2) := by decide +kernel
theorem dX7_when_11 : decode cX7_when 11 = .ok (.invokevirtual 69, 3) := by decide +kernel
theorem dX7_when_14 : decode cX7_when 14 = .ok (.ireturn, 1) := by decide +kernel
theorem dX7_chain_0 : decode cX7_chain 0 = .ok (.aload_n 0, 1) := by decide +kernel
theorem dX7_chain_1 : decode cX7_chain 1 = .ok (.iload_n 1, 1) := by decide +kernel
theorem dX7_chain_2 : decode cX7_chain 2 = .ok (.invokevirtual 117, 3) := by decide +kernel
theorem dX7_chain_5 : decode cX7_chain 5 = .ok (.ifCond .ne 10, 3) := by decide +kernel
theorem dX7_chain_8 : decode cX7_chain 8 = .ok (.aload_n 0, 1) := by decide +kernel
theorem dX7_chain_9 : decode cX7_chain 9 = .ok (.ldc 68, 2) := by decide +kernel
theorem dX7_chain_11 : decode cX7_chain 11 = .ok (.invokevirtual 69, 3) := by decide +kernel
theorem dX7_chain_14 : decode cX7_chain 14 = .ok (.ireturn, 1) := by decide +kernel
theorem dX7_hand_0 : decode cX7_hand 0 = .ok (.aload_n 0, 1) := by decide +kernel
theorem dX7_hand_1 : decode cX7_hand 1 = .ok (.iload_n 1, 1) := by decide +kernel
theorem dX7_hand_2 : decode cX7_hand 2 = .ok (.invokevirtual 117, 3) := by decide +kernel
theorem dX7_hand_5 : decode cX7_hand 5 = .ok (.ifCond .eq 13, 3) := by decide +kernel
theorem dX7_hand_18 : decode cX7_hand 18 = .ok (.aload_n 0, 1) := by decide +kernel
theorem dX7_hand_19 : decode cX7_hand 19 = .ok (.ldc 68, 2) := by decide +kernel
theorem dX7_hand_21 : decode cX7_hand 21 = .ok (.invokevirtual 69, 3) := by decide +kernel
theorem dX7_hand_24 : decode cX7_hand 24 = .ok (.ireturn, 1) := by decide +kernel
theorem dX7_sharp_0 : decode cX7_sharp 0 = .ok (.aload_n 0, 1) := by decide +kernel
theorem dX7_sharp_1 : decode cX7_sharp 1 = .ok (.iload_n 1, 1) := by decide +kernel
theorem dX7_sharp_2 : decode cX7_sharp 2 = .ok (.invokevirtual 117, 3) := by decide +kernel
theorem dX7_sharp_5 : decode cX7_sharp 5 = .ok (.ifCond .eq 13, 3) := by decide +kernel
theorem dX7_sharp_18 : decode cX7_sharp 18 = .ok (.aload_n 0, 1) := by decide +kernel
theorem dX7_sharp_19 : decode cX7_sharp 19 = .ok (.ldc 68, 2) := by decide +kernel
theorem dX7_sharp_21 : decode cX7_sharp 21 = .ok (.invokevirtual 69, 3) := by decide +kernel
theorem dX7_sharp_24 : decode cX7_sharp 24 = .ok (.ireturn, 1) := by decide +kernel
theorem dX7_odds_0 : decode cX7_odds 0 = .ok (.aload_n 0, 1) := by decide +kernel
theorem dX7_odds_1 : decode cX7_odds 1 = .ok (.iload_n 1, 1) := by decide +kernel
theorem dX7_odds_2 : decode cX7_odds 2 = .ok (.invokevirtual 117, 3) := by decide +kernel
theorem dX7_odds_5 : decode cX7_odds 5 = .ok (.ifCond .eq 22, 3) := by decide +kernel
theorem dX7_odds_27 : decode cX7_odds 27 = .ok (.aload_n 0, 1) := by decide +kernel
theorem dX7_odds_28 : decode cX7_odds 28 = .ok (.ldc 68, 2) := by decide +kernel
theorem dX7_odds_30 : decode cX7_odds 30 = .ok (.invokevirtual 69, 3) := by decide +kernel
theorem dX7_odds_33 : decode cX7_odds 33 = .ok (.ireturn, 1) := by decide +kernel
theorem dX7_voice_0 : decode cX7_voice 0 = .ok (.aload_n 0, 1) := by decide +kernel
theorem dX7_voice_1 : decode cX7_voice 1 = .ok (.iload_n 1, 1) := by decide +kernel
theorem dX7_voice_2 : decode cX7_voice 2 = .ok (.invokevirtual 117, 3) := by decide +kernel
theorem dX7_voice_5 : decode cX7_voice 5 = .ok (.ifCond .eq 12, 3) := by decide +kernel
theorem dX7_voice_17 : decode cX7_voice 17 = .ok (.aload_n 0, 1) := by decide +kernel
theorem dX7_voice_18 : decode cX7_voice 18 = .ok (.ldc 68, 2) := by decide +kernel
theorem dX7_voice_20 : decode cX7_voice 20 = .ok (.invokevirtual 69, 3) := by decide +kernel
theorem dX7_voice_23 : decode cX7_voice 23 = .ok (.ireturn, 1) := by decide +kernel
theorem dX7_then_0 : decode cX7_then 0 = .ok (.iload_n 1, 1) := by decide +kernel
theorem dX7_then_1 : decode cX7_then 1 = .ok (.iconst 0, 1) := by decide +kernel
theorem dX7_then_2 : decode cX7_then 2 = .ok (.bipush 60, 2) := by decide +kernel
theorem dX7_then_4 : decode cX7_then 4 = .ok (.invokestatic 60, 3) := by decide +kernel
theorem dX7_then_7 : decode cX7_then 7 = .ok (.ifCond .eq 20, 3) := by decide +kernel
theorem dX7_then_10 : decode cX7_then 10 = .ok (.aload_n 0, 1) := by decide +kernel
theorem dX7_then_11 : decode cX7_then 11 = .ok (.iload_n 2, 1) := by decide +kernel
theorem dX7_then_12 : decode cX7_then 12 = .ok (.invokevirtual 117, 3) := by decide +kernel
theorem dX7_then_15 : decode cX7_then 15 = .ok (.ifCond .eq 12, 3) := by decide +kernel
theorem dX7_then_27 : decode cX7_then 27 = .ok (.aload_n 0, 1) := by decide +kernel
theorem dX7_then_28 : decode cX7_then 28 = .ok (.ldc 68, 2) := by decide +kernel
theorem dX7_then_30 : decode cX7_then 30 = .ok (.invokevirtual 69, 3) := by decide +kernel
theorem dX7_then_33 : decode cX7_then 33 = .ok (.ireturn, 1) := by decide +kernel
theorem dX7_inArea_0 : decode cX7_inArea 0 = .ok (.iload_n 1, 1) := by decide +kernel
theorem dX7_inArea_1 : decode cX7_inArea 1 = .ok (.iconst 0, 1) := by decide +kernel
theorem dX7_inArea_2 : decode cX7_inArea 2 = .ok (.bipush 9, 2) := by decide +kernel
theorem dX7_inArea_4 : decode cX7_inArea 4 = .ok (.invokestatic 60, 3) := by decide +kernel
theorem dX7_inArea_7 : decode cX7_inArea 7 = .ok (.ifCond .ne 10, 3) := by decide +kernel
theorem dX7_inArea_17 : decode cX7_inArea 17 = .ok (.aload_n 0, 1) := by decide +kernel
theorem dX7_inArea_18 : decode cX7_inArea 18 = .ok (.getfield 12, 3) := by decide +kernel
theorem dX7_inArea_21 : decode cX7_inArea 21 = .ok (.getfield 72, 3) := by decide +kernel
theorem dX7_inArea_24 : decode cX7_inArea 24 = .ok (.iload_n 1, 1) := by decide +kernel
theorem dX7_inArea_25 : decode cX7_inArea 25 = .ok (.invokevirtual 79, 3) := by decide +kernel
theorem dX7_inArea_28 : decode cX7_inArea 28 = .ok (.ireturn, 1) := by decide +kernel
theorem dX7_inArea_10 : decode cX7_inArea 10 = .ok (.aload_n 0, 1) := by decide +kernel
theorem dX7_inArea_11 : decode cX7_inArea 11 = .ok (.ldc 68, 2) := by decide +kernel
theorem dX7_inArea_13 : decode cX7_inArea 13 = .ok (.invokevirtual 69, 3) := by decide +kernel
theorem dX7_inArea_16 : decode cX7_inArea 16 = .ok (.ireturn, 1) := by decide +kernel
theorem dX7_set_0 : decode cX7_set 0 = .ok (.iload_n 1, 1) := by decide +kernel
theorem dX7_set_1 : decode cX7_set 1 = .ok (.iconst 0, 1) := by decide +kernel
theorem dX7_set_2 : decode cX7_set 2 = .ok (.iconst 3, 1) := by decide +kernel
theorem dX7_set_3 : decode cX7_set 3 = .ok (.invokestatic 60, 3) := by decide +kernel
theorem dX7_set_6 : decode cX7_set 6 = .ok (.ifCond .eq 15, 3) := by decide +kernel
theorem dX7_set_9 : decode cX7_set 9 = .ok (.iload_n 2, 1) := by decide +kernel
theorem dX7_set_10 : decode cX7_set 10 = .ok (.iconst 0, 1) := by decide +kernel
theorem dX7_set_11 : decode cX7_set 11 = .ok (.iload_n 1, 1) := by decide +kernel
theorem dX7_set_12 : decode cX7_set 12 = .ok (.invokestatic 64, 3) := by decide +kernel
theorem dX7_set_15 : decode cX7_set 15 = .ok (.invokestatic 60, 3) := by decide +kernel
theorem dX7_set_18 : decode cX7_set 18 = .ok (.ifCond .ne 10, 3) := by decide +kernel
theorem dX7_set_28 : decode cX7_set 28 = .ok (.aload_n 0, 1) := by decide +kernel
theorem dX7_set_29 : decode cX7_set 29 = .ok (.getfield 12, 3) := by decide +kernel
theorem dX7_set_32 : decode cX7_set 32 = .ok (.getfield 72, 3) := by decide +kernel
theorem dX7_set_35 : decode cX7_set 35 = .ok (.iload_n 1, 1) := by decide +kernel
theorem dX7_set_36 : decode cX7_set 36 = .ok (.iload_n 2, 1) := by decide +kernel
theorem dX7_set_37 : decode cX7_set 37 = .ok (.invokevirtual 75, 3) := by decide +kernel
theorem dX7_set_40 : decode cX7_set 40 = .ok (.ireturn, 1) := by decide +kernel
theorem dX7_set_21 : decode cX7_set 21 = .ok (.aload_n 0, 1) := by decide +kernel
theorem dX7_set_22 : decode cX7_set 22 = .ok (.ldc 68, 2) := by decide +kernel
theorem dX7_set_24 : decode cX7_set 24 = .ok (.invokevirtual 69, 3) := by decide +kernel
theorem dX7_set_27 : decode cX7_set 27 = .ok (.ireturn, 1) := by decide +kernel
set_option maxRecDepth 100000 in
set_option maxHeartbeats 4000000 in
theorem c_X7_mostOfGrinder (l : Launch) (D : va_G) (y : wY) (ad : Nat → Nat) (M : Mem) (what : Int32) : MI l D y ad yX7_mostOfGrinder (Cond.code yX7_mostOfGrinder cX7_mostOfGrinder 1 (some .int)) 0 M [.int what] (fun r M' => (what.toInt = 0 ∧ 9 = r ∧ M = M') ∨ (what.toInt = 1 ∧ 9 = r ∧ M = M') ∨ (what.toInt = 2 ∧ 99999 = r ∧ M = M') ∨ ((what.toInt ≠ 0 ∧ what.toInt ≠ 1 ∧ what.toInt ≠ 2) ∧ 99999 = r ∧ M = M')) := by
  refine MI_of (by decide) (Nat.le_of_ble_eq_true rfl) ?_
  intro p e s m args below meth c X hr hlocks
  refine j_lv (lv1 := [(0, .int what)]) [0] rfl ?_
  refine j_iload_n X 0 rfl rfl dX7_mostOfGrinder_0 ?_
  by_cases w_1 : what = 0
  · refine j_tsw_in X 28 0 w_1 (by decide) (by decide) (off := 27) rfl (by decide) dX7_mostOfGrinder_1 ?_
    have qw_1 := ti_eq (n := 0) (by decide) w_1
    refine j_bipush X (v := 9) (by decide) dX7_mostOfGrinder_28 ?_
    exact j_iret X hr hlocks dX7_mostOfGrinder_30 (Or.inl ⟨qw_1, rfl, rfl⟩)
  by_cases w_2 : what = 1
  · refine j_tsw_in X 31 1 w_2 (by decide) (by decide) (off := 30) rfl (by decide) dX7_mostOfGrinder_1 ?_
    have qw_2 := ti_eq (n := 1) (by decide) w_2
    refine j_bipush X (v := 9) (by decide) dX7_mostOfGrinder_31 ?_
    exact j_iret X hr hlocks dX7_mostOfGrinder_33 (Or.inr (Or.inl ⟨qw_2, rfl, rfl⟩))
  by_cases w_3 : what = 2
  · refine j_tsw_in X 34 2 w_3 (by decide) (by decide) (off := 33) rfl (by decide) dX7_mostOfGrinder_1 ?_
    have qw_3 := ti_eq (n := 2) (by decide) w_3
    refine j_ldcw X (v := 99999) aw_115 dX7_mostOfGrinder_34 ?_
    exact j_iret X hr hlocks dX7_mostOfGrinder_37 (Or.inr (Or.inr (Or.inl ⟨qw_3, rfl, rfl⟩)))
  refine j_tsw_out X 38 (tsw_out 2 (by decide) (fun j hj => by
    have hj : j = 0 ∨ j = 1 ∨ j = 2 := by omega
    rcases hj with rfl | rfl | rfl
    · exact w_1
    · exact w_2
    · exact w_3
    )) (by decide) dX7_mostOfGrinder_1 ?_
  have qw_1 := ti_ne (n := 0) (by decide) w_1
  have qw_2 := ti_ne (n := 1) (by decide) w_2
  have qw_3 := ti_ne (n := 2) (by decide) w_3
  refine j_ldcw X (v := 99999) aw_115 dX7_mostOfGrinder_38 ?_
  exact j_iret X hr hlocks dX7_mostOfGrinder_41 (Or.inr (Or.inr (Or.inr ⟨by omega, rfl, rfl⟩)))
set_option maxRecDepth 100000 in
set_option maxHeartbeats 4000000 in
theorem c_setGrinder_12 (l : Launch) (D : va_G) (y : wY) (ad : Nat → Nat) (M : Mem) (hz : Z0 M) (what v : Int32) : MI l D y ad yX0_setGrinder (Cond.code yX0_setGrinder cX0_setGrinder 4 (some .int)) 0 M [.ref (ad 12), .int what, .int v] (fun r _ => (what.toInt = 0 ∧ 0 = r) ∨ (what.toInt = 1 ∧ 1 = r) ∨ (what.toInt = 2 ∧ 0 = r) ∨ ((what.toInt ≠ 0 ∧ what.toInt ≠ 1 ∧ what.toInt ≠ 2) ∧ 0 = r)) := by
  refine MI_of (by decide) (Nat.le_of_ble_eq_true rfl) ?_
  intro p e s m args below meth c X hr hlocks
  refine j_lv (lv1 := [(0, .ref (ad 12)), (1, .int what), (2, .int v)]) [0, 1, 2] rfl ?_
  refine j_iload_n X 1 rfl rfl dX0_setGrinder_0 ?_
  by_cases w_1 : what = 0
  · refine j_tsw_in X 28 0 w_1 (by decide) (by decide) (off := 27) rfl (by decide) dX0_setGrinder_1 ?_
    have qw_1 := ti_eq (n := 0) (by decide) w_1
    refine j_aload_n X 0 rfl rfl dX0_setGrinder_28 ?_
    refine j_get X (by decide) (wE_0 _ rfl) rfl awF0 4 (by decide) aw_124 rfl (v := .int (M 12 4)) rfl dX0_setGrinder_29 ?_
    refine j_eqi (v := 0) hz.2.1 ?_
    refine j_istore_n X [(3, .int 0), (0, .ref (ad 12)), (1, .int what), (2, .int v)] rfl (by decide) rfl dX0_setGrinder_32 ?_
    refine j_aload_n X 1 rfl rfl dX0_setGrinder_33 ?_
    refine j_iload_n X 3 rfl rfl dX0_setGrinder_34 ?_
    refine j_put X (up M 12 4 v) up_o (by decide) (wE_0 _ rfl) rfl awF0 4 (by decide) (wP_0_4 _ _ rfl) tyX0 tyX0_ok nmX0 rfl (ty := .int) (by decide +kernel) rfl rfl (Nat.le_of_ble_eq_true rfl) aw_124 rfl dX0_setGrinder_35 ?_
    refine j_iload_n X 0 rfl rfl dX0_setGrinder_38 ?_
    exact j_iret X hr hlocks dX0_setGrinder_39 (Or.inl ⟨qw_1, rfl⟩)
  by_cases w_2 : what = 1
  · refine j_tsw_in X 40 1 w_2 (by decide) (by decide) (off := 39) rfl (by decide) dX0_setGrinder_1 ?_
    have qw_2 := ti_eq (n := 1) (by decide) w_2
    refine j_aload_n X 0 rfl rfl dX0_setGrinder_40 ?_
    refine j_get X (by decide) (wE_0 _ rfl) rfl awF0 5 (by decide) aw_61 rfl (v := .int (M 12 5)) rfl dX0_setGrinder_41 ?_
    refine j_eqi (v := 1) hz.2.2.1 ?_
    refine j_istore_n X [(3, .int 1), (0, .ref (ad 12)), (1, .int what), (2, .int v)] rfl (by decide) rfl dX0_setGrinder_44 ?_
    refine j_aload_n X 1 rfl rfl dX0_setGrinder_45 ?_
    refine j_iload_n X 3 rfl rfl dX0_setGrinder_46 ?_
    refine j_put X (up M 12 5 v) up_o (by decide) (wE_0 _ rfl) rfl awF0 5 (by decide) (wP_0_5 _ _ rfl) tyX0 tyX0_ok nmX0 rfl (ty := .int) (by decide +kernel) rfl rfl (Nat.le_of_ble_eq_true rfl) aw_61 rfl dX0_setGrinder_47 ?_
    refine j_iload_n X 0 rfl rfl dX0_setGrinder_50 ?_
    exact j_iret X hr hlocks dX0_setGrinder_51 (Or.inr (Or.inl ⟨qw_2, rfl⟩))
  by_cases w_3 : what = 2
  · refine j_tsw_in X 52 2 w_3 (by decide) (by decide) (off := 51) rfl (by decide) dX0_setGrinder_1 ?_
    have qw_3 := ti_eq (n := 2) (by decide) w_3
    refine j_aload_n X 0 rfl rfl dX0_setGrinder_52 ?_
    refine j_get X (by decide) (wE_0 _ rfl) rfl awF0 7 (by decide) aw_125 rfl (v := .int (M 12 7)) rfl dX0_setGrinder_53 ?_
    refine j_eqi (v := 0) hz.2.2.2.2.1 ?_
    refine j_istore_n X [(3, .int 0), (0, .ref (ad 12)), (1, .int what), (2, .int v)] rfl (by decide) rfl dX0_setGrinder_56 ?_
    refine j_aload_n X 1 rfl rfl dX0_setGrinder_57 ?_
    refine j_iload_n X 3 rfl rfl dX0_setGrinder_58 ?_
    refine j_put X (up M 12 7 v) up_o (by decide) (wE_0 _ rfl) rfl awF0 7 (by decide) (wP_0_7 _ _ rfl) tyX0 tyX0_ok nmX0 rfl (ty := .int) (by decide +kernel) rfl rfl (Nat.le_of_ble_eq_true rfl) aw_125 rfl dX0_setGrinder_59 ?_
    refine j_iload_n X 0 rfl rfl dX0_setGrinder_62 ?_
    exact j_iret X hr hlocks dX0_setGrinder_63 (Or.inr (Or.inr (Or.inl ⟨qw_3, rfl⟩)))
  refine j_tsw_out X 64 (tsw_out 2 (by decide) (fun j hj => by
    have hj : j = 0 ∨ j = 1 ∨ j = 2 := by omega
    rcases hj with rfl | rfl | rfl
    · exact w_1
    · exact w_2
    · exact w_3
    )) (by decide) dX0_setGrinder_1 ?_
  have qw_1 := ti_ne (n := 0) (by decide) w_1
  have qw_2 := ti_ne (n := 1) (by decide) w_2
  have qw_3 := ti_ne (n := 2) (by decide) w_3
  refine j_aload_n X 0 rfl rfl dX0_setGrinder_64 ?_
  refine j_get X (by decide) (wE_0 _ rfl) rfl awF0 8 (by decide) aw_126 rfl (v := .int (M 12 8)) rfl dX0_setGrinder_65 ?_
  refine j_eqi (v := 0) hz.2.2.2.2.2.1 ?_
  refine j_istore_n X [(3, .int 0), (0, .ref (ad 12)), (1, .int what), (2, .int v)] rfl (by decide) rfl dX0_setGrinder_68 ?_
  refine j_aload_n X 1 rfl rfl dX0_setGrinder_69 ?_
  refine j_iload_n X 3 rfl rfl dX0_setGrinder_70 ?_
  refine j_put X (up M 12 8 v) up_o (by decide) (wE_0 _ rfl) rfl awF0 8 (by decide) (wP_0_8 _ _ rfl) tyX0 tyX0_ok nmX0 rfl (ty := .int) (by decide +kernel) rfl rfl (Nat.le_of_ble_eq_true rfl) aw_126 rfl dX0_setGrinder_71 ?_
  refine j_iload_n X 0 rfl rfl dX0_setGrinder_74 ?_
  exact j_iret X hr hlocks dX0_setGrinder_75 (Or.inr (Or.inr (Or.inr ⟨by omega, rfl⟩)))
set_option maxRecDepth 100000 in
set_option maxHeartbeats 4000000 in
theorem c_isQuarrel0 (l : Launch) (D : va_G) (y : wY) (ad : Nat → Nat) (M : Mem) (hm : M 12 3 = 0) (q : Int32) : MI l D y ad yX7_isQuarrel (Cond.code yX7_isQuarrel cX7_isQuarrel 2 (some .boolean)) 1 M [.ref (ad 0), .int q] (fun r M' => 0 = r ∧ M = M') := by
  refine MI_of (by decide) (Nat.le_of_ble_eq_true rfl) ?_
  intro p e s m args below meth c X hr hlocks
  refine j_lv (lv1 := [(0, .ref (ad 0)), (1, .int q)]) [0, 1] rfl ?_
  refine j_iload_n X 1 rfl rfl dX7_isQuarrel_0 ?_
  refine j_iconst X (v := 0) (by decide) dX7_isQuarrel_1 ?_
  refine j_aload_n X 0 rfl rfl dX7_isQuarrel_2 ?_
  refine j_get X (by decide) (wE_7 _ rfl) rfl awF7 0 (by decide) aw_16 rfl (v := .ref (ad 1)) rfl dX7_isQuarrel_3 ?_
  refine j_getN X (by decide) (wE_6 _ rfl) rfl awF6 2 (by decide) (List.mem_of_getElem? (i := 23) rfl) rfl (v := .ref (ad 12)) rfl dX7_isQuarrel_6 ?_
  refine j_getN X (by decide) (wE_0 _ rfl) rfl awF0 3 (by decide) (List.mem_of_getElem? (i := 15) rfl) rfl (v := .int (M 12 3)) rfl dX7_isQuarrel_9 ?_
  refine j_eqi (v := 0) hm ?_
  refine j_iconst X (v := 1) (by decide) dX7_isQuarrel_12 ?_
  refine j_isub X dX7_isQuarrel_13 ?_
  refine j_eqi (v := (-1)) (by decide) ?_
  refine j_callSI X (nn := 3) (As := [.int q, .int 0, .int (-1)]) (st := []) aw_110 (c_X7_isWithin l D y ad M q 0 (-1) 0 (-1) (by decide) (by decide)) aw_109 aw_111 aw_2 (by decide +kernel) ⟨by decide, by decide⟩ rfl (Nat.le_of_ble_eq_true rfl) ⟨by decide, by decide⟩ dX7_isQuarrel_14 ?_
  rintro r_ M1_ (⟨rfl, rfl, h_1⟩ | ⟨rfl, rfl, h_1⟩)
  · exfalso; omega
  · exact j_zret X hr hlocks (Or.inl rfl) dX7_isQuarrel_17 ⟨rfl, rfl⟩
set_option maxRecDepth 100000 in
set_option maxHeartbeats 4000000 in
theorem c_X7_isKindAndM (l : Launch) (D : va_G) (y : wY) (ad : Nat → Nat) (M : Mem) (v : Int32) : MI l D y ad yX7_isKindAndM (Cond.code yX7_isKindAndM cX7_isKindAndM 1 (some .boolean)) 1 M [.int v] (fun r M' => (1 = r ∧ M = M' ∧ 0 ≤ v.toInt ∧ v.toInt ≤ 69) ∨ (0 = r ∧ M = M' ∧ ¬ (0 ≤ v.toInt ∧ v.toInt ≤ 69))) := by
  refine MI_of (by decide) (Nat.le_of_ble_eq_true rfl) ?_
  intro p e s m args below meth c X hr hlocks
  refine j_lv (lv1 := [(0, .int v)]) [0] rfl ?_
  refine j_iload_n X 0 rfl rfl dX7_isKindAndM_0 ?_
  refine j_iconst X (v := 0) (by decide) dX7_isKindAndM_1 ?_
  refine j_bipush X (v := 69) (by decide) dX7_isKindAndM_2 ?_
  refine j_callSI X (nn := 3) (As := [.int v, .int 0, .int 69]) (st := []) aw_110 (c_X7_isWithin l D y ad M v 0 69 0 69 (by decide) (by decide)) aw_109 aw_111 aw_2 (by decide +kernel) ⟨by decide, by decide⟩ rfl (Nat.le_of_ble_eq_true rfl) ⟨by decide, by decide⟩ dX7_isKindAndM_4 ?_
  rintro r_ M1_ (⟨rfl, rfl, h_1⟩ | ⟨rfl, rfl, h_1⟩)
  · exact j_zret X hr hlocks (Or.inr rfl) dX7_isKindAndM_7 (Or.inl ⟨rfl, rfl, h_1⟩)
  · exact j_zret X hr hlocks (Or.inl rfl) dX7_isKindAndM_7 (Or.inr ⟨rfl, rfl, h_1⟩)
set_option maxRecDepth 100000 in
set_option maxHeartbeats 4000000 in
theorem c_X7_isSheet (l : Launch) (D : va_G) (y : wY) (ad : Nat → Nat) (M : Mem) (v : Int32) : MI l D y ad yX7_isSheet (Cond.code yX7_isSheet cX7_isSheet 1 (some .boolean)) 1 M [.int v] (fun r M' => (1 = r ∧ M = M' ∧ 0 ≤ v.toInt ∧ v.toInt ≤ 3) ∨ (0 = r ∧ M = M' ∧ ¬ (0 ≤ v.toInt ∧ v.toInt ≤ 3))) := by
  refine MI_of (by decide) (Nat.le_of_ble_eq_true rfl) ?_
  intro p e s m args below meth c X hr hlocks
  refine j_lv (lv1 := [(0, .int v)]) [0] rfl ?_
  refine j_iload_n X 0 rfl rfl dX7_isSheet_0 ?_
  refine j_iconst X (v := 0) (by decide) dX7_isSheet_1 ?_
  refine j_iconst X (v := 3) (by decide) dX7_isSheet_2 ?_
  refine j_callSI X (nn := 3) (As := [.int v, .int 0, .int 3]) (st := []) aw_110 (c_X7_isWithin l D y ad M v 0 3 0 3 (by decide) (by decide)) aw_109 aw_111 aw_2 (by decide +kernel) ⟨by decide, by decide⟩ rfl (Nat.le_of_ble_eq_true rfl) ⟨by decide, by decide⟩ dX7_isSheet_3 ?_
  rintro r_ M1_ (⟨rfl, rfl, h_1⟩ | ⟨rfl, rfl, h_1⟩)
  · exact j_zret X hr hlocks (Or.inr rfl) dX7_isSheet_6 (Or.inl ⟨rfl, rfl, h_1⟩)
  · exact j_zret X hr hlocks (Or.inl rfl) dX7_isSheet_6 (Or.inr ⟨rfl, rfl, h_1⟩)
set_option maxRecDepth 100000 in
set_option maxHeartbeats 4000000 in
theorem c0_X7_ofQuarrel (l : Launch) (D : va_G) (y : wY) (ad : Nat → Nat) (M : Mem) (hz : Z0 M) (q what : Int32) : MI l D y ad yX7_ofQuarrel (Cond.code yX7_ofQuarrel cX7_ofQuarrel 4 (some .int)) 6 M [.ref (ad 0), .int q, .int what] (fun r _ => sp_ofQuarrel q what = r) := by
  refine MI_of (by decide) (Nat.le_of_ble_eq_true rfl) ?_
  intro p e s m args below meth c X hr hlocks
  refine j_lv (lv1 := [(0, .ref (ad 0)), (1, .int q), (2, .int what)]) [0, 1, 2] rfl ?_
  refine j_aload_n X 0 rfl rfl dX7_ofQuarrel_0 ?_
  refine j_iload_n X 1 rfl rfl dX7_ofQuarrel_1 ?_
  refine j_callVI X (nn := 1) (As := [.int q]) (st := []) (ci := 7) (by decide) (wE_7 _ rfl) rfl aw_191 aw_192 (c_isQuarrel0 l D y ad M hz.1 q) aw_190 aw_193 aw_2 (by decide +kernel) ⟨by decide, by decide⟩ rfl (Nat.le_of_ble_eq_true rfl) ⟨by decide, by decide⟩ dX7_ofQuarrel_2 ?_
  rintro r_ M1_ ⟨rfl, rfl⟩
  refine j_if_eq X 18 (by decide) dX7_ofQuarrel_5 (fun c_1 => ?_) (fun c_1 => False.elim (by revert c_1; decide))
  refine j_aload_n X 0 rfl rfl dX7_ofQuarrel_18 ?_
  refine j_ldc X (v := (-1000000001)) aw_108 dX7_ofQuarrel_19 ?_
  refine j_callVI X (nn := 1) (As := [.int (-1000000001)]) (st := []) (ci := 7) (by decide) (wE_7 _ rfl) rfl aw_117 aw_118 (c_X7_refuse l D y ad M (-1000000001) 1 (by decide) (by decide)) aw_116 aw_119 aw_2 (by decide +kernel) ⟨by decide, by decide⟩ rfl (Nat.le_of_ble_eq_true rfl) ⟨by decide, by decide⟩ dX7_ofQuarrel_21 ?_
  rintro r_ M1_ ⟨rfl, rfl⟩
  exact j_iret X hr hlocks dX7_ofQuarrel_24 (by unfold sp_ofQuarrel; (repeat' split) <;> first | rfl | omega | (exfalso; omega))
set_option maxRecDepth 100000 in
set_option maxHeartbeats 4000000 in
theorem c0_X7_change (l : Launch) (D : va_G) (y : wY) (ad : Nat → Nat) (M : Mem) (hz : Z0 M) (q what v : Int32) : MI l D y ad yX7_change (Cond.code yX7_change cX7_change 4 (some .int)) 6 M [.ref (ad 0), .int q, .int what, .int v] (fun r _ => sp_change q what v = r) := by
  refine MI_of (by decide) (Nat.le_of_ble_eq_true rfl) ?_
  intro p e s m args below meth c X hr hlocks
  refine j_lv (lv1 := [(0, .ref (ad 0)), (1, .int q), (2, .int what), (3, .int v)]) [0, 1, 2, 3] rfl ?_
  refine j_aload_n X 0 rfl rfl dX7_change_0 ?_
  refine j_iload_n X 1 rfl rfl dX7_change_1 ?_
  refine j_callVI X (nn := 1) (As := [.int q]) (st := []) (ci := 7) (by decide) (wE_7 _ rfl) rfl aw_191 aw_192 (c_isQuarrel0 l D y ad M hz.1 q) aw_190 aw_193 aw_2 (by decide +kernel) ⟨by decide, by decide⟩ rfl (Nat.le_of_ble_eq_true rfl) ⟨by decide, by decide⟩ dX7_change_2 ?_
  rintro r_ M1_ ⟨rfl, rfl⟩
  refine j_if_eq X 29 (by decide) dX7_change_5 (fun c_1 => ?_) (fun c_1 => False.elim (by revert c_1; decide))
  refine j_aload_n X 0 rfl rfl dX7_change_29 ?_
  refine j_ldc X (v := (-1000000001)) aw_108 dX7_change_30 ?_
  refine j_callVI X (nn := 1) (As := [.int (-1000000001)]) (st := []) (ci := 7) (by decide) (wE_7 _ rfl) rfl aw_117 aw_118 (c_X7_refuse l D y ad M (-1000000001) 1 (by decide) (by decide)) aw_116 aw_119 aw_2 (by decide +kernel) ⟨by decide, by decide⟩ rfl (Nat.le_of_ble_eq_true rfl) ⟨by decide, by decide⟩ dX7_change_32 ?_
  rintro r_ M1_ ⟨rfl, rfl⟩
  exact j_iret X hr hlocks dX7_change_35 (by unfold sp_change; (repeat' split) <;> first | rfl | omega | (exfalso; omega))
set_option maxRecDepth 100000 in
set_option maxHeartbeats 4000000 in
theorem c0_X7_become (l : Launch) (D : va_G) (y : wY) (ad : Nat → Nat) (M : Mem) (hz : Z0 M) (q km : Int32) : MI l D y ad yX7_become (Cond.code yX7_become cX7_become 5 (some .int)) 6 M [.ref (ad 0), .int q, .int km] (fun r _ => sp_become q km = r) := by
  refine MI_of (by decide) (Nat.le_of_ble_eq_true rfl) ?_
  intro p e s m args below meth c X hr hlocks
  refine j_lv (lv1 := [(0, .ref (ad 0)), (1, .int q), (2, .int km)]) [0, 1, 2] rfl ?_
  refine j_aload_n X 0 rfl rfl dX7_become_0 ?_
  refine j_iload_n X 1 rfl rfl dX7_become_1 ?_
  refine j_callVI X (nn := 1) (As := [.int q]) (st := []) (ci := 7) (by decide) (wE_7 _ rfl) rfl aw_191 aw_192 (c_isQuarrel0 l D y ad M hz.1 q) aw_190 aw_193 aw_2 (by decide +kernel) ⟨by decide, by decide⟩ rfl (Nat.le_of_ble_eq_true rfl) ⟨by decide, by decide⟩ dX7_become_2 ?_
  rintro r_ M1_ ⟨rfl, rfl⟩
  refine j_if_eq X 15 (by decide) dX7_become_5 (fun c_1 => ?_) (fun c_1 => False.elim (by revert c_1; decide))
  refine j_aload_n X 0 rfl rfl dX7_become_15 ?_
  refine j_ldc X (v := (-1000000001)) aw_108 dX7_become_16 ?_
  refine j_callVI X (nn := 1) (As := [.int (-1000000001)]) (st := []) (ci := 7) (by decide) (wE_7 _ rfl) rfl aw_117 aw_118 (c_X7_refuse l D y ad M (-1000000001) 1 (by decide) (by decide)) aw_116 aw_119 aw_2 (by decide +kernel) ⟨by decide, by decide⟩ rfl (Nat.le_of_ble_eq_true rfl) ⟨by decide, by decide⟩ dX7_become_18 ?_
  rintro r_ M1_ ⟨rfl, rfl⟩
  exact j_iret X hr hlocks dX7_become_21 (by unfold sp_become; (repeat' split) <;> first | rfl | omega | (exfalso; omega))
set_option maxRecDepth 100000 in
set_option maxHeartbeats 4000000 in
theorem c0_X7_as (l : Launch) (D : va_G) (y : wY) (ad : Nat → Nat) (M : Mem) (hz : Z0 M) (q kind : Int32) : MI l D y ad yX7_as (Cond.code yX7_as cX7_as 4 (some .int)) 6 M [.ref (ad 0), .int q, .int kind] (fun r _ => sp_as q kind = r) := by
  refine MI_of (by decide) (Nat.le_of_ble_eq_true rfl) ?_
  intro p e s m args below meth c X hr hlocks
  refine j_lv (lv1 := [(0, .ref (ad 0)), (1, .int q), (2, .int kind)]) [0, 1, 2] rfl ?_
  refine j_aload_n X 0 rfl rfl dX7_as_0 ?_
  refine j_iload_n X 1 rfl rfl dX7_as_1 ?_
  refine j_callVI X (nn := 1) (As := [.int q]) (st := []) (ci := 7) (by decide) (wE_7 _ rfl) rfl aw_191 aw_192 (c_isQuarrel0 l D y ad M hz.1 q) aw_190 aw_193 aw_2 (by decide +kernel) ⟨by decide, by decide⟩ rfl (Nat.le_of_ble_eq_true rfl) ⟨by decide, by decide⟩ dX7_as_2 ?_
  rintro r_ M1_ ⟨rfl, rfl⟩
  refine j_if_eq X 18 (by decide) dX7_as_5 (fun c_1 => ?_) (fun c_1 => False.elim (by revert c_1; decide))
  refine j_aload_n X 0 rfl rfl dX7_as_18 ?_
  refine j_ldc X (v := (-1000000001)) aw_108 dX7_as_19 ?_
  refine j_callVI X (nn := 1) (As := [.int (-1000000001)]) (st := []) (ci := 7) (by decide) (wE_7 _ rfl) rfl aw_117 aw_118 (c_X7_refuse l D y ad M (-1000000001) 1 (by decide) (by decide)) aw_116 aw_119 aw_2 (by decide +kernel) ⟨by decide, by decide⟩ rfl (Nat.le_of_ble_eq_true rfl) ⟨by decide, by decide⟩ dX7_as_21 ?_
  rintro r_ M1_ ⟨rfl, rfl⟩
  exact j_iret X hr hlocks dX7_as_24 (by unfold sp_as; (repeat' split) <;> first | rfl | omega | (exfalso; omega))
set_option maxRecDepth 100000 in
set_option maxHeartbeats 4000000 in
theorem c0_X7_when (l : Launch) (D : va_G) (y : wY) (ad : Nat → Nat) (M : Mem) (hz : Z0 M) (q : Int32) : MI l D y ad yX7_when (Cond.code yX7_when cX7_when 3 (some .int)) 6 M [.ref (ad 0), .int q] (fun r _ => sp_when q = r) := by
  refine MI_of (by decide) (Nat.le_of_ble_eq_true rfl) ?_
  intro p e s m args below meth c X hr hlocks
  refine j_lv (lv1 := [(0, .ref (ad 0)), (1, .int q)]) [0, 1] rfl ?_
  refine j_aload_n X 0 rfl rfl dX7_when_0 ?_
  refine j_iload_n X 1 rfl rfl dX7_when_1 ?_
  refine j_callVI X (nn := 1) (As := [.int q]) (st := []) (ci := 7) (by decide) (wE_7 _ rfl) rfl aw_191 aw_192 (c_isQuarrel0 l D y ad M hz.1 q) aw_190 aw_193 aw_2 (by decide +kernel) ⟨by decide, by decide⟩ rfl (Nat.le_of_ble_eq_true rfl) ⟨by decide, by decide⟩ dX7_when_2 ?_
  rintro r_ M1_ ⟨rfl, rfl⟩
  refine j_if_ne X 15 (by decide) dX7_when_5 (fun c_1 => False.elim (by revert c_1; decide)) (fun c_1 => ?_)
  refine j_aload_n X 0 rfl rfl dX7_when_8 ?_
  refine j_ldc X (v := (-1000000001)) aw_108 dX7_when_9 ?_
  refine j_callVI X (nn := 1) (As := [.int (-1000000001)]) (st := []) (ci := 7) (by decide) (wE_7 _ rfl) rfl aw_117 aw_118 (c_X7_refuse l D y ad M (-1000000001) 1 (by decide) (by decide)) aw_116 aw_119 aw_2 (by decide +kernel) ⟨by decide, by decide⟩ rfl (Nat.le_of_ble_eq_true rfl) ⟨by decide, by decide⟩ dX7_when_11 ?_
  rintro r_ M1_ ⟨rfl, rfl⟩
  exact j_iret X hr hlocks dX7_when_14 (by unfold sp_when; (repeat' split) <;> first | rfl | omega | (exfalso; omega))
set_option maxRecDepth 100000 in
set_option maxHeartbeats 4000000 in
theorem c0_X7_chain (l : Launch) (D : va_G) (y : wY) (ad : Nat → Nat) (M : Mem) (hz : Z0 M) (q : Int32) : MI l D y ad yX7_chain (Cond.code yX7_chain cX7_chain 2 (some .int)) 6 M [.ref (ad 0), .int q] (fun r _ => sp_chain q = r) := by
  refine MI_of (by decide) (Nat.le_of_ble_eq_true rfl) ?_
  intro p e s m args below meth c X hr hlocks
  refine j_lv (lv1 := [(0, .ref (ad 0)), (1, .int q)]) [0, 1] rfl ?_
  refine j_aload_n X 0 rfl rfl dX7_chain_0 ?_
  refine j_iload_n X 1 rfl rfl dX7_chain_1 ?_
  refine j_callVI X (nn := 1) (As := [.int q]) (st := []) (ci := 7) (by decide) (wE_7 _ rfl) rfl aw_191 aw_192 (c_isQuarrel0 l D y ad M hz.1 q) aw_190 aw_193 aw_2 (by decide +kernel) ⟨by decide, by decide⟩ rfl (Nat.le_of_ble_eq_true rfl) ⟨by decide, by decide⟩ dX7_chain_2 ?_
  rintro r_ M1_ ⟨rfl, rfl⟩
  refine j_if_ne X 15 (by decide) dX7_chain_5 (fun c_1 => False.elim (by revert c_1; decide)) (fun c_1 => ?_)
  refine j_aload_n X 0 rfl rfl dX7_chain_8 ?_
  refine j_ldc X (v := (-1000000001)) aw_108 dX7_chain_9 ?_
  refine j_callVI X (nn := 1) (As := [.int (-1000000001)]) (st := []) (ci := 7) (by decide) (wE_7 _ rfl) rfl aw_117 aw_118 (c_X7_refuse l D y ad M (-1000000001) 1 (by decide) (by decide)) aw_116 aw_119 aw_2 (by decide +kernel) ⟨by decide, by decide⟩ rfl (Nat.le_of_ble_eq_true rfl) ⟨by decide, by decide⟩ dX7_chain_11 ?_
  rintro r_ M1_ ⟨rfl, rfl⟩
  exact j_iret X hr hlocks dX7_chain_14 (by unfold sp_chain; (repeat' split) <;> first | rfl | omega | (exfalso; omega))
set_option maxRecDepth 100000 in
set_option maxHeartbeats 4000000 in
theorem c0_X7_hand (l : Launch) (D : va_G) (y : wY) (ad : Nat → Nat) (M : Mem) (hz : Z0 M) (q n : Int32) : MI l D y ad yX7_hand (Cond.code yX7_hand cX7_hand 7 (some .int)) 6 M [.ref (ad 0), .int q, .int n] (fun r _ => sp_hand q n = r) := by
  refine MI_of (by decide) (Nat.le_of_ble_eq_true rfl) ?_
  intro p e s m args below meth c X hr hlocks
  refine j_lv (lv1 := [(0, .ref (ad 0)), (1, .int q), (2, .int n)]) [0, 1, 2] rfl ?_
  refine j_aload_n X 0 rfl rfl dX7_hand_0 ?_
  refine j_iload_n X 1 rfl rfl dX7_hand_1 ?_
  refine j_callVI X (nn := 1) (As := [.int q]) (st := []) (ci := 7) (by decide) (wE_7 _ rfl) rfl aw_191 aw_192 (c_isQuarrel0 l D y ad M hz.1 q) aw_190 aw_193 aw_2 (by decide +kernel) ⟨by decide, by decide⟩ rfl (Nat.le_of_ble_eq_true rfl) ⟨by decide, by decide⟩ dX7_hand_2 ?_
  rintro r_ M1_ ⟨rfl, rfl⟩
  refine j_if_eq X 18 (by decide) dX7_hand_5 (fun c_1 => ?_) (fun c_1 => False.elim (by revert c_1; decide))
  refine j_aload_n X 0 rfl rfl dX7_hand_18 ?_
  refine j_ldc X (v := (-1000000001)) aw_108 dX7_hand_19 ?_
  refine j_callVI X (nn := 1) (As := [.int (-1000000001)]) (st := []) (ci := 7) (by decide) (wE_7 _ rfl) rfl aw_117 aw_118 (c_X7_refuse l D y ad M (-1000000001) 1 (by decide) (by decide)) aw_116 aw_119 aw_2 (by decide +kernel) ⟨by decide, by decide⟩ rfl (Nat.le_of_ble_eq_true rfl) ⟨by decide, by decide⟩ dX7_hand_21 ?_
  rintro r_ M1_ ⟨rfl, rfl⟩
  exact j_iret X hr hlocks dX7_hand_24 (by unfold sp_hand; (repeat' split) <;> first | rfl | omega | (exfalso; omega))
set_option maxRecDepth 100000 in
set_option maxHeartbeats 4000000 in
theorem c0_X7_sharp (l : Launch) (D : va_G) (y : wY) (ad : Nat → Nat) (M : Mem) (hz : Z0 M) (q n : Int32) : MI l D y ad yX7_sharp (Cond.code yX7_sharp cX7_sharp 4 (some .int)) 6 M [.ref (ad 0), .int q, .int n] (fun r _ => sp_sharp q n = r) := by
  refine MI_of (by decide) (Nat.le_of_ble_eq_true rfl) ?_
  intro p e s m args below meth c X hr hlocks
  refine j_lv (lv1 := [(0, .ref (ad 0)), (1, .int q), (2, .int n)]) [0, 1, 2] rfl ?_
  refine j_aload_n X 0 rfl rfl dX7_sharp_0 ?_
  refine j_iload_n X 1 rfl rfl dX7_sharp_1 ?_
  refine j_callVI X (nn := 1) (As := [.int q]) (st := []) (ci := 7) (by decide) (wE_7 _ rfl) rfl aw_191 aw_192 (c_isQuarrel0 l D y ad M hz.1 q) aw_190 aw_193 aw_2 (by decide +kernel) ⟨by decide, by decide⟩ rfl (Nat.le_of_ble_eq_true rfl) ⟨by decide, by decide⟩ dX7_sharp_2 ?_
  rintro r_ M1_ ⟨rfl, rfl⟩
  refine j_if_eq X 18 (by decide) dX7_sharp_5 (fun c_1 => ?_) (fun c_1 => False.elim (by revert c_1; decide))
  refine j_aload_n X 0 rfl rfl dX7_sharp_18 ?_
  refine j_ldc X (v := (-1000000001)) aw_108 dX7_sharp_19 ?_
  refine j_callVI X (nn := 1) (As := [.int (-1000000001)]) (st := []) (ci := 7) (by decide) (wE_7 _ rfl) rfl aw_117 aw_118 (c_X7_refuse l D y ad M (-1000000001) 1 (by decide) (by decide)) aw_116 aw_119 aw_2 (by decide +kernel) ⟨by decide, by decide⟩ rfl (Nat.le_of_ble_eq_true rfl) ⟨by decide, by decide⟩ dX7_sharp_21 ?_
  rintro r_ M1_ ⟨rfl, rfl⟩
  exact j_iret X hr hlocks dX7_sharp_24 (by unfold sp_sharp; (repeat' split) <;> first | rfl | omega | (exfalso; omega))
set_option maxRecDepth 100000 in
set_option maxHeartbeats 4000000 in
theorem c0_X7_odds (l : Launch) (D : va_G) (y : wY) (ad : Nat → Nat) (M : Mem) (hz : Z0 M) (q n part : Int32) : MI l D y ad yX7_odds (Cond.code yX7_odds cX7_odds 6 (some .int)) 6 M [.ref (ad 0), .int q, .int n, .int part] (fun r _ => sp_odds q n part = r) := by
  refine MI_of (by decide) (Nat.le_of_ble_eq_true rfl) ?_
  intro p e s m args below meth c X hr hlocks
  refine j_lv (lv1 := [(0, .ref (ad 0)), (1, .int q), (2, .int n), (3, .int part)]) [0, 1, 2, 3] rfl ?_
  refine j_aload_n X 0 rfl rfl dX7_odds_0 ?_
  refine j_iload_n X 1 rfl rfl dX7_odds_1 ?_
  refine j_callVI X (nn := 1) (As := [.int q]) (st := []) (ci := 7) (by decide) (wE_7 _ rfl) rfl aw_191 aw_192 (c_isQuarrel0 l D y ad M hz.1 q) aw_190 aw_193 aw_2 (by decide +kernel) ⟨by decide, by decide⟩ rfl (Nat.le_of_ble_eq_true rfl) ⟨by decide, by decide⟩ dX7_odds_2 ?_
  rintro r_ M1_ ⟨rfl, rfl⟩
  refine j_if_eq X 27 (by decide) dX7_odds_5 (fun c_1 => ?_) (fun c_1 => False.elim (by revert c_1; decide))
  refine j_aload_n X 0 rfl rfl dX7_odds_27 ?_
  refine j_ldc X (v := (-1000000001)) aw_108 dX7_odds_28 ?_
  refine j_callVI X (nn := 1) (As := [.int (-1000000001)]) (st := []) (ci := 7) (by decide) (wE_7 _ rfl) rfl aw_117 aw_118 (c_X7_refuse l D y ad M (-1000000001) 1 (by decide) (by decide)) aw_116 aw_119 aw_2 (by decide +kernel) ⟨by decide, by decide⟩ rfl (Nat.le_of_ble_eq_true rfl) ⟨by decide, by decide⟩ dX7_odds_30 ?_
  rintro r_ M1_ ⟨rfl, rfl⟩
  exact j_iret X hr hlocks dX7_odds_33 (by unfold sp_odds; (repeat' split) <;> first | rfl | omega | (exfalso; omega))
set_option maxRecDepth 100000 in
set_option maxHeartbeats 4000000 in
theorem c0_X7_voice (l : Launch) (D : va_G) (y : wY) (ad : Nat → Nat) (M : Mem) (hz : Z0 M) (q act x : Int32) : MI l D y ad yX7_voice (Cond.code yX7_voice cX7_voice 5 (some .int)) 6 M [.ref (ad 0), .int q, .int act, .int x] (fun r _ => sp_voice q act x = r) := by
  refine MI_of (by decide) (Nat.le_of_ble_eq_true rfl) ?_
  intro p e s m args below meth c X hr hlocks
  refine j_lv (lv1 := [(0, .ref (ad 0)), (1, .int q), (2, .int act), (3, .int x)]) [0, 1, 2, 3] rfl ?_
  refine j_aload_n X 0 rfl rfl dX7_voice_0 ?_
  refine j_iload_n X 1 rfl rfl dX7_voice_1 ?_
  refine j_callVI X (nn := 1) (As := [.int q]) (st := []) (ci := 7) (by decide) (wE_7 _ rfl) rfl aw_191 aw_192 (c_isQuarrel0 l D y ad M hz.1 q) aw_190 aw_193 aw_2 (by decide +kernel) ⟨by decide, by decide⟩ rfl (Nat.le_of_ble_eq_true rfl) ⟨by decide, by decide⟩ dX7_voice_2 ?_
  rintro r_ M1_ ⟨rfl, rfl⟩
  refine j_if_eq X 17 (by decide) dX7_voice_5 (fun c_1 => ?_) (fun c_1 => False.elim (by revert c_1; decide))
  refine j_aload_n X 0 rfl rfl dX7_voice_17 ?_
  refine j_ldc X (v := (-1000000001)) aw_108 dX7_voice_18 ?_
  refine j_callVI X (nn := 1) (As := [.int (-1000000001)]) (st := []) (ci := 7) (by decide) (wE_7 _ rfl) rfl aw_117 aw_118 (c_X7_refuse l D y ad M (-1000000001) 1 (by decide) (by decide)) aw_116 aw_119 aw_2 (by decide +kernel) ⟨by decide, by decide⟩ rfl (Nat.le_of_ble_eq_true rfl) ⟨by decide, by decide⟩ dX7_voice_20 ?_
  rintro r_ M1_ ⟨rfl, rfl⟩
  exact j_iret X hr hlocks dX7_voice_23 (by unfold sp_voice; (repeat' split) <;> first | rfl | omega | (exfalso; omega))
set_option maxRecDepth 100000 in
set_option maxHeartbeats 4000000 in
theorem c0_X7_then (l : Launch) (D : va_G) (y : wY) (ad : Nat → Nat) (M : Mem) (hz : Z0 M) (n q what : Int32) : MI l D y ad yX7_then (Cond.code yX7_then cX7_then 5 (some .int)) 6 M [.ref (ad 0), .int n, .int q, .int what] (fun r _ => sp_then n q what = r) := by
  refine MI_of (by decide) (Nat.le_of_ble_eq_true rfl) ?_
  intro p e s m args below meth c X hr hlocks
  refine j_lv (lv1 := [(0, .ref (ad 0)), (1, .int n), (2, .int q), (3, .int what)]) [0, 1, 2, 3] rfl ?_
  refine j_iload_n X 1 rfl rfl dX7_then_0 ?_
  refine j_iconst X (v := 0) (by decide) dX7_then_1 ?_
  refine j_bipush X (v := 60) (by decide) dX7_then_2 ?_
  refine j_callSI X (nn := 3) (As := [.int n, .int 0, .int 60]) (st := []) aw_110 (c_X7_isWithin l D y ad M n 0 60 0 60 (by decide) (by decide)) aw_109 aw_111 aw_2 (by decide +kernel) ⟨by decide, by decide⟩ rfl (Nat.le_of_ble_eq_true rfl) ⟨by decide, by decide⟩ dX7_then_4 ?_
  rintro r_ M1_ (⟨rfl, rfl, h_1⟩ | ⟨rfl, rfl, h_1⟩)
  · refine j_if_eq X 27 (by decide) dX7_then_7 (fun c_2 => False.elim (by revert c_2; decide)) (fun c_2 => ?_)
    refine j_aload_n X 0 rfl rfl dX7_then_10 ?_
    refine j_iload_n X 2 rfl rfl dX7_then_11 ?_
    refine j_callVI X (nn := 1) (As := [.int q]) (st := []) (ci := 7) (by decide) (wE_7 _ rfl) rfl aw_191 aw_192 (c_isQuarrel0 l D y ad M hz.1 q) aw_190 aw_193 aw_2 (by decide +kernel) ⟨by decide, by decide⟩ rfl (Nat.le_of_ble_eq_true rfl) ⟨by decide, by decide⟩ dX7_then_12 ?_
    rintro r_ M1_ ⟨rfl, rfl⟩
    refine j_if_eq X 27 (by decide) dX7_then_15 (fun c_3 => ?_) (fun c_3 => False.elim (by revert c_3; decide))
    refine j_aload_n X 0 rfl rfl dX7_then_27 ?_
    refine j_ldc X (v := (-1000000001)) aw_108 dX7_then_28 ?_
    refine j_callVI X (nn := 1) (As := [.int (-1000000001)]) (st := []) (ci := 7) (by decide) (wE_7 _ rfl) rfl aw_117 aw_118 (c_X7_refuse l D y ad M (-1000000001) 1 (by decide) (by decide)) aw_116 aw_119 aw_2 (by decide +kernel) ⟨by decide, by decide⟩ rfl (Nat.le_of_ble_eq_true rfl) ⟨by decide, by decide⟩ dX7_then_30 ?_
    rintro r_ M1_ ⟨rfl, rfl⟩
    exact j_iret X hr hlocks dX7_then_33 (by unfold sp_then; (repeat' split) <;> first | rfl | omega | (exfalso; omega))
  · refine j_if_eq X 27 (by decide) dX7_then_7 (fun c_4 => ?_) (fun c_4 => False.elim (by revert c_4; decide))
    refine j_aload_n X 0 rfl rfl dX7_then_27 ?_
    refine j_ldc X (v := (-1000000001)) aw_108 dX7_then_28 ?_
    refine j_callVI X (nn := 1) (As := [.int (-1000000001)]) (st := []) (ci := 7) (by decide) (wE_7 _ rfl) rfl aw_117 aw_118 (c_X7_refuse l D y ad M (-1000000001) 1 (by decide) (by decide)) aw_116 aw_119 aw_2 (by decide +kernel) ⟨by decide, by decide⟩ rfl (Nat.le_of_ble_eq_true rfl) ⟨by decide, by decide⟩ dX7_then_30 ?_
    rintro r_ M1_ ⟨rfl, rfl⟩
    exact j_iret X hr hlocks dX7_then_33 (by unfold sp_then; (repeat' split) <;> first | rfl | omega | (exfalso; omega))
set_option maxRecDepth 100000 in
set_option maxHeartbeats 4000000 in
theorem c0_X7_inArea (l : Launch) (D : va_G) (y : wY) (ad : Nat → Nat) (M : Mem) (hz : Z0 M) (a : Int32) : MI l D y ad yX7_inArea (Cond.code yX7_inArea cX7_inArea 2 (some .int)) 6 M [.ref (ad 0), .int a] (fun r _ => sp_inArea a = r) := by
  refine MI_of (by decide) (Nat.le_of_ble_eq_true rfl) ?_
  intro p e s m args below meth c X hr hlocks
  refine j_lv (lv1 := [(0, .ref (ad 0)), (1, .int a)]) [0, 1] rfl ?_
  refine j_iload_n X 1 rfl rfl dX7_inArea_0 ?_
  refine j_iconst X (v := 0) (by decide) dX7_inArea_1 ?_
  refine j_bipush X (v := 9) (by decide) dX7_inArea_2 ?_
  refine j_callSI X (nn := 3) (As := [.int a, .int 0, .int 9]) (st := []) aw_110 (c_X7_isWithin l D y ad M a 0 9 0 9 (by decide) (by decide)) aw_109 aw_111 aw_2 (by decide +kernel) ⟨by decide, by decide⟩ rfl (Nat.le_of_ble_eq_true rfl) ⟨by decide, by decide⟩ dX7_inArea_4 ?_
  rintro r_ M1_ (⟨rfl, rfl, h_1⟩ | ⟨rfl, rfl, h_1⟩)
  · refine j_if_ne X 17 (by decide) dX7_inArea_7 (fun c_2 => ?_) (fun c_2 => False.elim (by revert c_2; decide))
    refine j_aload_n X 0 rfl rfl dX7_inArea_17 ?_
    refine j_get X (by decide) (wE_7 _ rfl) rfl awF7 0 (by decide) aw_16 rfl (v := .ref (ad 1)) rfl dX7_inArea_18 ?_
    refine j_getN X (by decide) (wE_6 _ rfl) rfl awF6 2 (by decide) (List.mem_of_getElem? (i := 23) rfl) rfl (v := .ref (ad 12)) rfl dX7_inArea_21 ?_
    refine j_iload_n X 1 rfl rfl dX7_inArea_24 ?_
    refine j_callVNI X (nn := 1) (As := [.int a]) (st := []) (ci := 0) (by decide) (wE_0 _ rfl) rfl aw_152 aw_153 (c_setInArea0_12 l D y ad M hz.1 a) (List.mem_of_getElem? (i := 11) rfl) aw_154 aw_20 (by decide +kernel) ⟨by decide, by decide⟩ rfl (Nat.le_of_ble_eq_true rfl) ⟨by decide, by decide⟩ dX7_inArea_25 ?_
    rintro r_ M1_ ⟨rfl, rfl⟩
    exact j_iret X hr hlocks dX7_inArea_28 (by unfold sp_inArea; (repeat' split) <;> first | rfl | omega | (exfalso; omega))
  · refine j_if_ne X 17 (by decide) dX7_inArea_7 (fun c_3 => False.elim (by revert c_3; decide)) (fun c_3 => ?_)
    refine j_aload_n X 0 rfl rfl dX7_inArea_10 ?_
    refine j_ldc X (v := (-1000000001)) aw_108 dX7_inArea_11 ?_
    refine j_callVI X (nn := 1) (As := [.int (-1000000001)]) (st := []) (ci := 7) (by decide) (wE_7 _ rfl) rfl aw_117 aw_118 (c_X7_refuse l D y ad M (-1000000001) 1 (by decide) (by decide)) aw_116 aw_119 aw_2 (by decide +kernel) ⟨by decide, by decide⟩ rfl (Nat.le_of_ble_eq_true rfl) ⟨by decide, by decide⟩ dX7_inArea_13 ?_
    rintro r_ M1_ ⟨rfl, rfl⟩
    exact j_iret X hr hlocks dX7_inArea_16 (by unfold sp_inArea; (repeat' split) <;> first | rfl | omega | (exfalso; omega))
set_option maxRecDepth 100000 in
set_option maxHeartbeats 4000000 in
theorem c0_X7_set (l : Launch) (D : va_G) (y : wY) (ad : Nat → Nat) (M : Mem) (hz : Z0 M) (what v : Int32) : MI l D y ad yX7_set (Cond.code yX7_set cX7_set 3 (some .int)) 6 M [.ref (ad 0), .int what, .int v] (fun r _ => sp_set what v = r) := by
  refine MI_of (by decide) (Nat.le_of_ble_eq_true rfl) ?_
  intro p e s m args below meth c X hr hlocks
  refine j_lv (lv1 := [(0, .ref (ad 0)), (1, .int what), (2, .int v)]) [0, 1, 2] rfl ?_
  refine j_iload_n X 1 rfl rfl dX7_set_0 ?_
  refine j_iconst X (v := 0) (by decide) dX7_set_1 ?_
  refine j_iconst X (v := 3) (by decide) dX7_set_2 ?_
  refine j_callSI X (nn := 3) (As := [.int what, .int 0, .int 3]) (st := []) aw_110 (c_X7_isWithin l D y ad M what 0 3 0 3 (by decide) (by decide)) aw_109 aw_111 aw_2 (by decide +kernel) ⟨by decide, by decide⟩ rfl (Nat.le_of_ble_eq_true rfl) ⟨by decide, by decide⟩ dX7_set_3 ?_
  rintro r_ M1_ (⟨rfl, rfl, h_1⟩ | ⟨rfl, rfl, h_1⟩)
  · refine j_if_eq X 21 (by decide) dX7_set_6 (fun c_2 => False.elim (by revert c_2; decide)) (fun c_2 => ?_)
    refine j_iload_n X 2 rfl rfl dX7_set_9 ?_
    refine j_iconst X (v := 0) (by decide) dX7_set_10 ?_
    refine j_iload_n X 1 rfl rfl dX7_set_11 ?_
    refine j_callSI X (nn := 1) (As := [.int what]) (st := [.int 0, .int v]) aw_113 (c_X7_mostOfGrinder l D y ad M what) aw_112 aw_114 aw_2 (by decide +kernel) ⟨by decide, by decide⟩ rfl (Nat.le_of_ble_eq_true rfl) ⟨by decide, by decide⟩ dX7_set_12 ?_
    rintro r_ M1_ (⟨h_3, rfl, rfl⟩ | ⟨h_3, rfl, rfl⟩ | ⟨h_3, rfl, rfl⟩ | ⟨h_3, rfl, rfl⟩)
    · refine j_callSI X (nn := 3) (As := [.int v, .int 0, .int 9]) (st := []) aw_110 (c_X7_isWithin l D y ad M v 0 9 0 9 (by decide) (by decide)) aw_109 aw_111 aw_2 (by decide +kernel) ⟨by decide, by decide⟩ rfl (Nat.le_of_ble_eq_true rfl) ⟨by decide, by decide⟩ dX7_set_15 ?_
      rintro r_ M1_ (⟨rfl, rfl, h_4⟩ | ⟨rfl, rfl, h_4⟩)
      · refine j_if_ne X 28 (by decide) dX7_set_18 (fun c_5 => ?_) (fun c_5 => False.elim (by revert c_5; decide))
        refine j_aload_n X 0 rfl rfl dX7_set_28 ?_
        refine j_get X (by decide) (wE_7 _ rfl) rfl awF7 0 (by decide) aw_16 rfl (v := .ref (ad 1)) rfl dX7_set_29 ?_
        refine j_getN X (by decide) (wE_6 _ rfl) rfl awF6 2 (by decide) (List.mem_of_getElem? (i := 23) rfl) rfl (v := .ref (ad 12)) rfl dX7_set_32 ?_
        refine j_iload_n X 1 rfl rfl dX7_set_35 ?_
        refine j_iload_n X 2 rfl rfl dX7_set_36 ?_
        refine j_callVNI X (nn := 2) (As := [.int what, .int v]) (st := []) (ci := 0) (by decide) (wE_0 _ rfl) rfl aw_121 aw_122 (c_setGrinder_12 l D y ad M hz what v) (List.mem_of_getElem? (i := 10) rfl) aw_123 aw_20 (by decide +kernel) ⟨by decide, by decide⟩ rfl (Nat.le_of_ble_eq_true rfl) ⟨by decide, by decide⟩ dX7_set_37 ?_
        rintro r_ M1_ (⟨h_6, rfl⟩ | ⟨h_6, rfl⟩ | ⟨h_6, rfl⟩ | ⟨h_6, rfl⟩)
        · exact j_iret X hr hlocks dX7_set_40 (by unfold sp_set; (repeat' split) <;> first | rfl | omega | (exfalso; omega))
        · exact j_iret X hr hlocks dX7_set_40 (by unfold sp_set; (repeat' split) <;> first | rfl | omega | (exfalso; omega))
        · exact j_iret X hr hlocks dX7_set_40 (by unfold sp_set; (repeat' split) <;> first | rfl | omega | (exfalso; omega))
        · exact j_iret X hr hlocks dX7_set_40 (by unfold sp_set; (repeat' split) <;> first | rfl | omega | (exfalso; omega))
      · refine j_if_ne X 28 (by decide) dX7_set_18 (fun c_7 => False.elim (by revert c_7; decide)) (fun c_7 => ?_)
        refine j_aload_n X 0 rfl rfl dX7_set_21 ?_
        refine j_ldc X (v := (-1000000001)) aw_108 dX7_set_22 ?_
        refine j_callVI X (nn := 1) (As := [.int (-1000000001)]) (st := []) (ci := 7) (by decide) (wE_7 _ rfl) rfl aw_117 aw_118 (c_X7_refuse l D y ad M (-1000000001) 1 (by decide) (by decide)) aw_116 aw_119 aw_2 (by decide +kernel) ⟨by decide, by decide⟩ rfl (Nat.le_of_ble_eq_true rfl) ⟨by decide, by decide⟩ dX7_set_24 ?_
        rintro r_ M1_ ⟨rfl, rfl⟩
        exact j_iret X hr hlocks dX7_set_27 (by unfold sp_set; (repeat' split) <;> first | rfl | omega | (exfalso; omega))
    · refine j_callSI X (nn := 3) (As := [.int v, .int 0, .int 9]) (st := []) aw_110 (c_X7_isWithin l D y ad M v 0 9 0 9 (by decide) (by decide)) aw_109 aw_111 aw_2 (by decide +kernel) ⟨by decide, by decide⟩ rfl (Nat.le_of_ble_eq_true rfl) ⟨by decide, by decide⟩ dX7_set_15 ?_
      rintro r_ M1_ (⟨rfl, rfl, h_8⟩ | ⟨rfl, rfl, h_8⟩)
      · refine j_if_ne X 28 (by decide) dX7_set_18 (fun c_9 => ?_) (fun c_9 => False.elim (by revert c_9; decide))
        refine j_aload_n X 0 rfl rfl dX7_set_28 ?_
        refine j_get X (by decide) (wE_7 _ rfl) rfl awF7 0 (by decide) aw_16 rfl (v := .ref (ad 1)) rfl dX7_set_29 ?_
        refine j_getN X (by decide) (wE_6 _ rfl) rfl awF6 2 (by decide) (List.mem_of_getElem? (i := 23) rfl) rfl (v := .ref (ad 12)) rfl dX7_set_32 ?_
        refine j_iload_n X 1 rfl rfl dX7_set_35 ?_
        refine j_iload_n X 2 rfl rfl dX7_set_36 ?_
        refine j_callVNI X (nn := 2) (As := [.int what, .int v]) (st := []) (ci := 0) (by decide) (wE_0 _ rfl) rfl aw_121 aw_122 (c_setGrinder_12 l D y ad M hz what v) (List.mem_of_getElem? (i := 10) rfl) aw_123 aw_20 (by decide +kernel) ⟨by decide, by decide⟩ rfl (Nat.le_of_ble_eq_true rfl) ⟨by decide, by decide⟩ dX7_set_37 ?_
        rintro r_ M1_ (⟨h_10, rfl⟩ | ⟨h_10, rfl⟩ | ⟨h_10, rfl⟩ | ⟨h_10, rfl⟩)
        · exact j_iret X hr hlocks dX7_set_40 (by unfold sp_set; (repeat' split) <;> first | rfl | omega | (exfalso; omega))
        · exact j_iret X hr hlocks dX7_set_40 (by unfold sp_set; (repeat' split) <;> first | rfl | omega | (exfalso; omega))
        · exact j_iret X hr hlocks dX7_set_40 (by unfold sp_set; (repeat' split) <;> first | rfl | omega | (exfalso; omega))
        · exact j_iret X hr hlocks dX7_set_40 (by unfold sp_set; (repeat' split) <;> first | rfl | omega | (exfalso; omega))
      · refine j_if_ne X 28 (by decide) dX7_set_18 (fun c_11 => False.elim (by revert c_11; decide)) (fun c_11 => ?_)
        refine j_aload_n X 0 rfl rfl dX7_set_21 ?_
        refine j_ldc X (v := (-1000000001)) aw_108 dX7_set_22 ?_
        refine j_callVI X (nn := 1) (As := [.int (-1000000001)]) (st := []) (ci := 7) (by decide) (wE_7 _ rfl) rfl aw_117 aw_118 (c_X7_refuse l D y ad M (-1000000001) 1 (by decide) (by decide)) aw_116 aw_119 aw_2 (by decide +kernel) ⟨by decide, by decide⟩ rfl (Nat.le_of_ble_eq_true rfl) ⟨by decide, by decide⟩ dX7_set_24 ?_
        rintro r_ M1_ ⟨rfl, rfl⟩
        exact j_iret X hr hlocks dX7_set_27 (by unfold sp_set; (repeat' split) <;> first | rfl | omega | (exfalso; omega))
    · refine j_callSI X (nn := 3) (As := [.int v, .int 0, .int 99999]) (st := []) aw_110 (c_X7_isWithin l D y ad M v 0 99999 0 99999 (by decide) (by decide)) aw_109 aw_111 aw_2 (by decide +kernel) ⟨by decide, by decide⟩ rfl (Nat.le_of_ble_eq_true rfl) ⟨by decide, by decide⟩ dX7_set_15 ?_
      rintro r_ M1_ (⟨rfl, rfl, h_12⟩ | ⟨rfl, rfl, h_12⟩)
      · refine j_if_ne X 28 (by decide) dX7_set_18 (fun c_13 => ?_) (fun c_13 => False.elim (by revert c_13; decide))
        refine j_aload_n X 0 rfl rfl dX7_set_28 ?_
        refine j_get X (by decide) (wE_7 _ rfl) rfl awF7 0 (by decide) aw_16 rfl (v := .ref (ad 1)) rfl dX7_set_29 ?_
        refine j_getN X (by decide) (wE_6 _ rfl) rfl awF6 2 (by decide) (List.mem_of_getElem? (i := 23) rfl) rfl (v := .ref (ad 12)) rfl dX7_set_32 ?_
        refine j_iload_n X 1 rfl rfl dX7_set_35 ?_
        refine j_iload_n X 2 rfl rfl dX7_set_36 ?_
        refine j_callVNI X (nn := 2) (As := [.int what, .int v]) (st := []) (ci := 0) (by decide) (wE_0 _ rfl) rfl aw_121 aw_122 (c_setGrinder_12 l D y ad M hz what v) (List.mem_of_getElem? (i := 10) rfl) aw_123 aw_20 (by decide +kernel) ⟨by decide, by decide⟩ rfl (Nat.le_of_ble_eq_true rfl) ⟨by decide, by decide⟩ dX7_set_37 ?_
        rintro r_ M1_ (⟨h_14, rfl⟩ | ⟨h_14, rfl⟩ | ⟨h_14, rfl⟩ | ⟨h_14, rfl⟩)
        · exact j_iret X hr hlocks dX7_set_40 (by unfold sp_set; (repeat' split) <;> first | rfl | omega | (exfalso; omega))
        · exact j_iret X hr hlocks dX7_set_40 (by unfold sp_set; (repeat' split) <;> first | rfl | omega | (exfalso; omega))
        · exact j_iret X hr hlocks dX7_set_40 (by unfold sp_set; (repeat' split) <;> first | rfl | omega | (exfalso; omega))
        · exact j_iret X hr hlocks dX7_set_40 (by unfold sp_set; (repeat' split) <;> first | rfl | omega | (exfalso; omega))
      · refine j_if_ne X 28 (by decide) dX7_set_18 (fun c_15 => False.elim (by revert c_15; decide)) (fun c_15 => ?_)
        refine j_aload_n X 0 rfl rfl dX7_set_21 ?_
        refine j_ldc X (v := (-1000000001)) aw_108 dX7_set_22 ?_
        refine j_callVI X (nn := 1) (As := [.int (-1000000001)]) (st := []) (ci := 7) (by decide) (wE_7 _ rfl) rfl aw_117 aw_118 (c_X7_refuse l D y ad M (-1000000001) 1 (by decide) (by decide)) aw_116 aw_119 aw_2 (by decide +kernel) ⟨by decide, by decide⟩ rfl (Nat.le_of_ble_eq_true rfl) ⟨by decide, by decide⟩ dX7_set_24 ?_
        rintro r_ M1_ ⟨rfl, rfl⟩
        exact j_iret X hr hlocks dX7_set_27 (by unfold sp_set; (repeat' split) <;> first | rfl | omega | (exfalso; omega))
    · refine j_callSI X (nn := 3) (As := [.int v, .int 0, .int 99999]) (st := []) aw_110 (c_X7_isWithin l D y ad M v 0 99999 0 99999 (by decide) (by decide)) aw_109 aw_111 aw_2 (by decide +kernel) ⟨by decide, by decide⟩ rfl (Nat.le_of_ble_eq_true rfl) ⟨by decide, by decide⟩ dX7_set_15 ?_
      rintro r_ M1_ (⟨rfl, rfl, h_16⟩ | ⟨rfl, rfl, h_16⟩)
      · refine j_if_ne X 28 (by decide) dX7_set_18 (fun c_17 => ?_) (fun c_17 => False.elim (by revert c_17; decide))
        refine j_aload_n X 0 rfl rfl dX7_set_28 ?_
        refine j_get X (by decide) (wE_7 _ rfl) rfl awF7 0 (by decide) aw_16 rfl (v := .ref (ad 1)) rfl dX7_set_29 ?_
        refine j_getN X (by decide) (wE_6 _ rfl) rfl awF6 2 (by decide) (List.mem_of_getElem? (i := 23) rfl) rfl (v := .ref (ad 12)) rfl dX7_set_32 ?_
        refine j_iload_n X 1 rfl rfl dX7_set_35 ?_
        refine j_iload_n X 2 rfl rfl dX7_set_36 ?_
        refine j_callVNI X (nn := 2) (As := [.int what, .int v]) (st := []) (ci := 0) (by decide) (wE_0 _ rfl) rfl aw_121 aw_122 (c_setGrinder_12 l D y ad M hz what v) (List.mem_of_getElem? (i := 10) rfl) aw_123 aw_20 (by decide +kernel) ⟨by decide, by decide⟩ rfl (Nat.le_of_ble_eq_true rfl) ⟨by decide, by decide⟩ dX7_set_37 ?_
        rintro r_ M1_ (⟨h_18, rfl⟩ | ⟨h_18, rfl⟩ | ⟨h_18, rfl⟩ | ⟨h_18, rfl⟩)
        · exact j_iret X hr hlocks dX7_set_40 (by unfold sp_set; (repeat' split) <;> first | rfl | omega | (exfalso; omega))
        · exact j_iret X hr hlocks dX7_set_40 (by unfold sp_set; (repeat' split) <;> first | rfl | omega | (exfalso; omega))
        · exact j_iret X hr hlocks dX7_set_40 (by unfold sp_set; (repeat' split) <;> first | rfl | omega | (exfalso; omega))
        · exact j_iret X hr hlocks dX7_set_40 (by unfold sp_set; (repeat' split) <;> first | rfl | omega | (exfalso; omega))
      · refine j_if_ne X 28 (by decide) dX7_set_18 (fun c_19 => False.elim (by revert c_19; decide)) (fun c_19 => ?_)
        refine j_aload_n X 0 rfl rfl dX7_set_21 ?_
        refine j_ldc X (v := (-1000000001)) aw_108 dX7_set_22 ?_
        refine j_callVI X (nn := 1) (As := [.int (-1000000001)]) (st := []) (ci := 7) (by decide) (wE_7 _ rfl) rfl aw_117 aw_118 (c_X7_refuse l D y ad M (-1000000001) 1 (by decide) (by decide)) aw_116 aw_119 aw_2 (by decide +kernel) ⟨by decide, by decide⟩ rfl (Nat.le_of_ble_eq_true rfl) ⟨by decide, by decide⟩ dX7_set_24 ?_
        rintro r_ M1_ ⟨rfl, rfl⟩
        exact j_iret X hr hlocks dX7_set_27 (by unfold sp_set; (repeat' split) <;> first | rfl | omega | (exfalso; omega))
  · refine j_if_eq X 21 (by decide) dX7_set_6 (fun c_20 => ?_) (fun c_20 => False.elim (by revert c_20; decide))
    refine j_aload_n X 0 rfl rfl dX7_set_21 ?_
    refine j_ldc X (v := (-1000000001)) aw_108 dX7_set_22 ?_
    refine j_callVI X (nn := 1) (As := [.int (-1000000001)]) (st := []) (ci := 7) (by decide) (wE_7 _ rfl) rfl aw_117 aw_118 (c_X7_refuse l D y ad M (-1000000001) 1 (by decide) (by decide)) aw_116 aw_119 aw_2 (by decide +kernel) ⟨by decide, by decide⟩ rfl (Nat.le_of_ble_eq_true rfl) ⟨by decide, by decide⟩ dX7_set_24 ?_
    rintro r_ M1_ ⟨rfl, rfl⟩
    exact j_iret X hr hlocks dX7_set_27 (by unfold sp_set; (repeat' split) <;> first | rfl | omega | (exfalso; omega))
end
section
theorem dX7_think_0 : decode cX7_think 0 = .ok (.aload_n 0, 1) := by decide +kernel
theorem dX7_think_1 : decode cX7_think 1 = .ok (.getfield 31, 3) := by decide +kernel
theorem dX7_think_4 : decode cX7_think 4 = .ok (.aload_n 0, 1) := by decide +kernel
theorem dX7_think_5 : decode cX7_think 5 = .ok (.getfield 12, 3) := by decide +kernel
theorem dX7_think_8 : decode cX7_think 8 = .ok (.getfield 72, 3) := by decide +kernel
theorem dX7_think_11 : decode cX7_think 11 = .ok (.invokevirtual 315, 3) := by decide +kernel
theorem dX7_think_14 : decode cX7_think 14 = .ok (.return_, 1) := by decide +kernel
theorem dX7_thinkDays_0 : decode cX7_thinkDays 0 = .ok (.iconst 0, 1) := by decide +kernel
theorem dX7_thinkDays_1 : decode cX7_thinkDays 1 = .ok (.istore_n 2, 1) := by decide +kernel
theorem dX7_thinkDays_2 : decode cX7_thinkDays 2 = .ok (.iload_n 2, 1) := by decide +kernel
theorem dX7_thinkDays_3 : decode cX7_thinkDays 3 = .ok (.iload_n 1, 1) := by decide +kernel
theorem dX7_thinkDays_4 : decode cX7_thinkDays 4 = .ok (.if_icmp .ge 17, 3) := by decide +kernel
theorem dX7_thinkDays_21 : decode cX7_thinkDays 21 = .ok (.return_, 1) := by decide +kernel
theorem dX7_thinkDays_7 : decode cX7_thinkDays 7 = .ok (.aload_n 0, 1) := by decide +kernel
theorem dX7_thinkDays_8 : decode cX7_thinkDays 8 = .ok (.getfield 31, 3) := by decide +kernel
theorem dX7_thinkDays_11 : decode cX7_thinkDays 11 = .ok (.iconst 0, 1) := by decide +kernel
theorem dX7_thinkDays_12 : decode cX7_thinkDays 12 = .ok (.invokevirtual 178, 3) := by decide +kernel
theorem dX7_thinkDays_15 : decode cX7_thinkDays 15 = .ok (.iinc 2 1, 3) := by decide +kernel
theorem dX7_thinkDays_18 : decode cX7_thinkDays 18 = .ok (.goto (-16), 3) := by decide +kernel
theorem dX7_thinkDaysWithHarm_0 : decode cX7_thinkDaysWithHarm 0 = .ok (.iconst 0, 1) := by decide +kernel
theorem dX7_thinkDaysWithHarm_1 : decode cX7_thinkDaysWithHarm 1 = .ok (.istore_n 2, 1) := by decide +kernel
theorem dX7_thinkDaysWithHarm_2 : decode cX7_thinkDaysWithHarm 2 = .ok (.iload_n 2, 1) := by decide +kernel
theorem dX7_thinkDaysWithHarm_3 : decode cX7_thinkDaysWithHarm 3 = .ok (.iload_n 1, 1) := by decide +kernel
theorem dX7_thinkDaysWithHarm_4 : decode cX7_thinkDaysWithHarm 4 = .ok (.if_icmp .ge 17, 3) := by decide +kernel
theorem dX7_thinkDaysWithHarm_21 : decode cX7_thinkDaysWithHarm 21 = .ok (.return_, 1) := by decide +kernel
theorem dX7_thinkDaysWithHarm_7 : decode cX7_thinkDaysWithHarm 7 = .ok (.aload_n 0, 1) := by decide +kernel
theorem dX7_thinkDaysWithHarm_8 : decode cX7_thinkDaysWithHarm 8 = .ok (.getfield 31, 3) := by decide +kernel
theorem dX7_thinkDaysWithHarm_11 : decode cX7_thinkDaysWithHarm 11 = .ok (.iconst 1, 1) := by decide +kernel
theorem dX7_thinkDaysWithHarm_12 : decode cX7_thinkDaysWithHarm 12 = .ok (.invokevirtual 178, 3) := by decide +kernel
theorem dX7_thinkDaysWithHarm_15 : decode cX7_thinkDaysWithHarm 15 = .ok (.iinc 2 1, 3) := by decide +kernel
theorem dX7_thinkDaysWithHarm_18 : decode cX7_thinkDaysWithHarm 18 = .ok (.goto (-16), 3) := by decide +kernel
theorem dX7_days_0 : decode cX7_days 0 = .ok (.iload_n 1, 1) := by decide +kernel
theorem dX7_days_1 : decode cX7_days 1 = .ok (.iconst 1, 1) := by decide +kernel
theorem dX7_days_2 : decode cX7_days 2 = .ok (.bipush 60, 2) := by decide +kernel
theorem dX7_days_4 : decode cX7_days 4 = .ok (.invokestatic 60, 3) := by decide +kernel
theorem dX7_days_7 : decode cX7_days 7 = .ok (.ifCond .ne 10, 3) := by decide +kernel
theorem dX7_days_17 : decode cX7_days 17 = .ok (.aload_n 0, 1) := by decide +kernel
theorem dX7_days_18 : decode cX7_days 18 = .ok (.getfield 12, 3) := by decide +kernel
theorem dX7_days_21 : decode cX7_days 21 = .ok (.getfield 72, 3) := by decide +kernel
theorem dX7_days_24 : decode cX7_days 24 = .ok (.getfield 174, 3) := by decide +kernel
theorem dX7_days_27 : decode cX7_days 27 = .ok (.iload_n 1, 1) := by decide +kernel
theorem dX7_days_28 : decode cX7_days 28 = .ok (.iadd, 1) := by decide +kernel
theorem dX7_days_29 : decode cX7_days 29 = .ok (.sipush 9999, 3) := by decide +kernel
theorem dX7_days_32 : decode cX7_days 32 = .ok (.if_icmp .le 10, 3) := by decide +kernel
theorem dX7_days_42 : decode cX7_days 42 = .ok (.iconst 0, 1) := by decide +kernel
theorem dX7_days_43 : decode cX7_days 43 = .ok (.istore_n 2, 1) := by decide +kernel
theorem dX7_days_44 : decode cX7_days 44 = .ok (.iload_n 2, 1) := by decide +kernel
theorem dX7_days_45 : decode cX7_days 45 = .ok (.iload_n 1, 1) := by decide +kernel
theorem dX7_days_46 : decode cX7_days 46 = .ok (.if_icmp .ge 20, 3) := by decide +kernel
theorem dX7_days_66 : decode cX7_days 66 = .ok (.aload_n 0, 1) := by decide +kernel
theorem dX7_days_67 : decode cX7_days 67 = .ok (.getfield 12, 3) := by decide +kernel
theorem dX7_days_70 : decode cX7_days 70 = .ok (.getfield 72, 3) := by decide +kernel
theorem dX7_days_73 : decode cX7_days 73 = .ok (.invokevirtual 182, 3) := by decide +kernel
theorem dX7_days_76 : decode cX7_days 76 = .ok (.ireturn, 1) := by decide +kernel
theorem dX7_days_49 : decode cX7_days 49 = .ok (.aload_n 0, 1) := by decide +kernel
theorem dX7_days_50 : decode cX7_days 50 = .ok (.getfield 12, 3) := by decide +kernel
theorem dX7_days_53 : decode cX7_days 53 = .ok (.getfield 72, 3) := by decide +kernel
theorem dX7_days_56 : decode cX7_days 56 = .ok (.iconst 1, 1) := by decide +kernel
theorem dX7_days_57 : decode cX7_days 57 = .ok (.invokevirtual 178, 3) := by decide +kernel
theorem dX7_days_60 : decode cX7_days 60 = .ok (.iinc 2 1, 3) := by decide +kernel
theorem dX7_days_63 : decode cX7_days 63 = .ok (.goto (-19), 3) := by decide +kernel
theorem dX7_days_10 : decode cX7_days 10 = .ok (.aload_n 0, 1) := by decide +kernel
theorem dX7_days_11 : decode cX7_days 11 = .ok (.ldc 68, 2) := by decide +kernel
theorem dX7_days_13 : decode cX7_days 13 = .ok (.invokevirtual 69, 3) := by decide +kernel
theorem dX7_days_16 : decode cX7_days 16 = .ok (.ireturn, 1) := by decide +kernel
theorem dX6_draw_0 : decode cX6_draw 0 = .ok (.aload_n 0, 1) := by decide +kernel
theorem dX6_draw_1 : decode cX6_draw 1 = .ok (.aload_n 0, 1) := by decide +kernel
theorem dX6_draw_2 : decode cX6_draw 2 = .ok (.getfield 37, 3) := by decide +kernel
theorem dX6_draw_5 : decode cX6_draw 5 = .ok (.ldc 45, 2) := by decide +kernel
theorem dX6_draw_7 : decode cX6_draw 7 = .ok (.imul, 1) := by decide +kernel
theorem dX6_draw_8 : decode cX6_draw 8 = .ok (.sipush 12345, 3) := by decide +kernel
theorem dX6_draw_11 : decode cX6_draw 11 = .ok (.iadd, 1) := by decide +kernel
theorem dX6_draw_12 : decode cX6_draw 12 = .ok (.putfield 37, 3) := by decide +kernel
theorem dX6_draw_15 : decode cX6_draw 15 = .ok (.aload_n 0, 1) := by decide +kernel
theorem dX6_draw_16 : decode cX6_draw 16 = .ok (.getfield 37, 3) := by decide +kernel
theorem dX6_draw_19 : decode cX6_draw 19 = .ok (.bipush 8, 2) := by decide +kernel
theorem dX6_draw_21 : decode cX6_draw 21 = .ok (.iushr, 1) := by decide +kernel
theorem dX6_draw_22 : decode cX6_draw 22 = .ok (.ireturn, 1) := by decide +kernel
theorem dX7_loose_0 : decode cX7_loose 0 = .ok (.iload_n 1, 1) := by decide +kernel
theorem dX7_loose_1 : decode cX7_loose 1 = .ok (.iconst 1, 1) := by decide +kernel
theorem dX7_loose_2 : decode cX7_loose 2 = .ok (.bipush 40, 2) := by decide +kernel
theorem dX7_loose_4 : decode cX7_loose 4 = .ok (.invokestatic 60, 3) := by decide +kernel
theorem dX7_loose_7 : decode cX7_loose 7 = .ok (.ifCond .ne 10, 3) := by decide +kernel
theorem dX7_loose_17 : decode cX7_loose 17 = .ok (.aload_n 0, 1) := by decide +kernel
theorem dX7_loose_18 : decode cX7_loose 18 = .ok (.getfield 12, 3) := by decide +kernel
theorem dX7_loose_21 : decode cX7_loose 21 = .ok (.getfield 72, 3) := by decide +kernel
theorem dX7_loose_24 : decode cX7_loose 24 = .ok (.getfield 174, 3) := by decide +kernel
theorem dX7_loose_27 : decode cX7_loose 27 = .ok (.iload_n 1, 1) := by decide +kernel
theorem dX7_loose_28 : decode cX7_loose 28 = .ok (.iadd, 1) := by decide +kernel
theorem dX7_loose_29 : decode cX7_loose 29 = .ok (.sipush 9999, 3) := by decide +kernel
theorem dX7_loose_32 : decode cX7_loose 32 = .ok (.if_icmp .le 10, 3) := by decide +kernel
theorem dX7_loose_42 : decode cX7_loose 42 = .ok (.iconst 0, 1) := by decide +kernel
theorem dX7_loose_43 : decode cX7_loose 43 = .ok (.istore_n 2, 1) := by decide +kernel
theorem dX7_loose_44 : decode cX7_loose 44 = .ok (.iload_n 2, 1) := by decide +kernel
theorem dX7_loose_45 : decode cX7_loose 45 = .ok (.iload_n 1, 1) := by decide +kernel
theorem dX7_loose_46 : decode cX7_loose 46 = .ok (.if_icmp .ge 40, 3) := by decide +kernel
theorem dX7_loose_86 : decode cX7_loose 86 = .ok (.aload_n 0, 1) := by decide +kernel
theorem dX7_loose_87 : decode cX7_loose 87 = .ok (.getfield 12, 3) := by decide +kernel
theorem dX7_loose_90 : decode cX7_loose 90 = .ok (.getfield 72, 3) := by decide +kernel
theorem dX7_loose_93 : decode cX7_loose 93 = .ok (.invokevirtual 182, 3) := by decide +kernel
theorem dX7_loose_96 : decode cX7_loose 96 = .ok (.ireturn, 1) := by decide +kernel
theorem dX7_loose_49 : decode cX7_loose 49 = .ok (.aload_n 0, 1) := by decide +kernel
theorem dX7_loose_50 : decode cX7_loose 50 = .ok (.getfield 12, 3) := by decide +kernel
theorem dX7_loose_53 : decode cX7_loose 53 = .ok (.getfield 72, 3) := by decide +kernel
theorem dX7_loose_56 : decode cX7_loose 56 = .ok (.aload_n 0, 1) := by decide +kernel
theorem dX7_loose_57 : decode cX7_loose 57 = .ok (.getfield 12, 3) := by decide +kernel
theorem dX7_loose_60 : decode cX7_loose 60 = .ok (.invokevirtual 185, 3) := by decide +kernel
theorem dX7_loose_63 : decode cX7_loose 63 = .ok (.bipush 10, 2) := by decide +kernel
theorem dX7_loose_65 : decode cX7_loose 65 = .ok (.irem, 1) := by decide +kernel
theorem dX7_loose_66 : decode cX7_loose 66 = .ok (.putfield 188, 3) := by decide +kernel
theorem dX7_loose_69 : decode cX7_loose 69 = .ok (.aload_n 0, 1) := by decide +kernel
theorem dX7_loose_70 : decode cX7_loose 70 = .ok (.getfield 12, 3) := by decide +kernel
theorem dX7_loose_73 : decode cX7_loose 73 = .ok (.getfield 72, 3) := by decide +kernel
theorem dX7_loose_76 : decode cX7_loose 76 = .ok (.iconst 1, 1) := by decide +kernel
theorem dX7_loose_77 : decode cX7_loose 77 = .ok (.invokevirtual 178, 3) := by decide +kernel
theorem dX7_loose_80 : decode cX7_loose 80 = .ok (.iinc 2 1, 3) := by decide +kernel
theorem dX7_loose_83 : decode cX7_loose 83 = .ok (.goto (-39), 3) := by decide +kernel
theorem dX7_loose_10 : decode cX7_loose 10 = .ok (.aload_n 0, 1) := by decide +kernel
theorem dX7_loose_11 : decode cX7_loose 11 = .ok (.ldc 68, 2) := by decide +kernel
theorem dX7_loose_13 : decode cX7_loose 13 = .ok (.invokevirtual 69, 3) := by decide +kernel
theorem dX7_loose_16 : decode cX7_loose 16 = .ok (.ireturn, 1) := by decide +kernel
theorem dX7_ended_0 : decode cX7_ended 0 = .ok (.iload_n 1, 1) := by decide +kernel
theorem dX7_ended_1 : decode cX7_ended 1 = .ok (.iconst 0, 1) := by decide +kernel
theorem dX7_ended_2 : decode cX7_ended 2 = .ok (.bipush 60, 2) := by decide +kernel
theorem dX7_ended_4 : decode cX7_ended 4 = .ok (.invokestatic 60, 3) := by decide +kernel
theorem dX7_ended_7 : decode cX7_ended 7 = .ok (.ifCond .ne 10, 3) := by decide +kernel
theorem dX7_ended_17 : decode cX7_ended 17 = .ok (.aload_n 0, 1) := by decide +kernel
theorem dX7_ended_18 : decode cX7_ended 18 = .ok (.invokevirtual 191, 3) := by decide +kernel
theorem dX7_ended_21 : decode cX7_ended 21 = .ok (.aload_n 0, 1) := by decide +kernel
theorem dX7_ended_22 : decode cX7_ended 22 = .ok (.iload_n 1, 1) := by decide +kernel
theorem dX7_ended_23 : decode cX7_ended 23 = .ok (.invokevirtual 194, 3) := by decide +kernel
theorem dX7_ended_26 : decode cX7_ended 26 = .ok (.aload_n 0, 1) := by decide +kernel
theorem dX7_ended_27 : decode cX7_ended 27 = .ok (.getfield 31, 3) := by decide +kernel
theorem dX7_ended_30 : decode cX7_ended 30 = .ok (.invokevirtual 198, 3) := by decide +kernel
theorem dX7_ended_33 : decode cX7_ended 33 = .ok (.ireturn, 1) := by decide +kernel
theorem dX7_ended_10 : decode cX7_ended 10 = .ok (.aload_n 0, 1) := by decide +kernel
theorem dX7_ended_11 : decode cX7_ended 11 = .ok (.ldc 68, 2) := by decide +kernel
theorem dX7_ended_13 : decode cX7_ended 13 = .ok (.invokevirtual 69, 3) := by decide +kernel
theorem dX7_ended_16 : decode cX7_ended 16 = .ok (.ireturn, 1) := by decide +kernel
theorem dX7_fee_0 : decode cX7_fee 0 = .ok (.iload_n 1, 1) := by decide +kernel
theorem dX7_fee_1 : decode cX7_fee 1 = .ok (.iconst 0, 1) := by decide +kernel
theorem dX7_fee_2 : decode cX7_fee 2 = .ok (.bipush 60, 2) := by decide +kernel
theorem dX7_fee_4 : decode cX7_fee 4 = .ok (.invokestatic 60, 3) := by decide +kernel
theorem dX7_fee_7 : decode cX7_fee 7 = .ok (.ifCond .ne 10, 3) := by decide +kernel
theorem dX7_fee_17 : decode cX7_fee 17 = .ok (.aload_n 0, 1) := by decide +kernel
theorem dX7_fee_18 : decode cX7_fee 18 = .ok (.invokevirtual 191, 3) := by decide +kernel
theorem dX7_fee_21 : decode cX7_fee 21 = .ok (.aload_n 0, 1) := by decide +kernel
theorem dX7_fee_22 : decode cX7_fee 22 = .ok (.iload_n 1, 1) := by decide +kernel
theorem dX7_fee_23 : decode cX7_fee 23 = .ok (.invokevirtual 194, 3) := by decide +kernel
theorem dX7_fee_26 : decode cX7_fee 26 = .ok (.aload_n 0, 1) := by decide +kernel
theorem dX7_fee_27 : decode cX7_fee 27 = .ok (.getfield 31, 3) := by decide +kernel
theorem dX7_fee_30 : decode cX7_fee 30 = .ok (.getfield 246, 3) := by decide +kernel
theorem dX7_fee_33 : decode cX7_fee 33 = .ok (.aload_n 0, 1) := by decide +kernel
theorem dX7_fee_34 : decode cX7_fee 34 = .ok (.getfield 12, 3) := by decide +kernel
theorem dX7_fee_37 : decode cX7_fee 37 = .ok (.getfield 72, 3) := by decide +kernel
theorem dX7_fee_40 : decode cX7_fee 40 = .ok (.getfield 246, 3) := by decide +kernel
theorem dX7_fee_43 : decode cX7_fee 43 = .ok (.isub, 1) := by decide +kernel
theorem dX7_fee_44 : decode cX7_fee 44 = .ok (.ireturn, 1) := by decide +kernel
theorem dX7_fee_10 : decode cX7_fee 10 = .ok (.aload_n 0, 1) := by decide +kernel
theorem dX7_fee_11 : decode cX7_fee 11 = .ok (.ldc 68, 2) := by decide +kernel
theorem dX7_fee_13 : decode cX7_fee 13 = .ok (.invokevirtual 69, 3) := by decide +kernel
theorem dX7_fee_16 : decode cX7_fee 16 = .ok (.ireturn, 1) := by decide +kernel
theorem dX7_free_0 : decode cX7_free 0 = .ok (.aload_n 0, 1) := by decide +kernel
theorem dX7_free_1 : decode cX7_free 1 = .ok (.getfield 12, 3) := by decide +kernel
theorem dX7_free_4 : decode cX7_free 4 = .ok (.getfield 72, 3) := by decide +kernel
theorem dX7_free_7 : decode cX7_free 7 = .ok (.invokevirtual 249, 3) := by decide +kernel
theorem dX7_free_10 : decode cX7_free 10 = .ok (.ireturn, 1) := by decide +kernel
theorem dX7_off_0 : decode cX7_off 0 = .ok (.iload_n 1, 1) := by decide +kernel
theorem dX7_off_1 : decode cX7_off 1 = .ok (.iconst 0, 1) := by decide +kernel
theorem dX7_off_2 : decode cX7_off 2 = .ok (.bipush 60, 2) := by decide +kernel
theorem dX7_off_4 : decode cX7_off 4 = .ok (.invokestatic 60, 3) := by decide +kernel
theorem dX7_off_7 : decode cX7_off 7 = .ok (.ifCond .ne 10, 3) := by decide +kernel
theorem dX7_off_17 : decode cX7_off 17 = .ok (.aload_n 0, 1) := by decide +kernel
theorem dX7_off_18 : decode cX7_off 18 = .ok (.invokevirtual 191, 3) := by decide +kernel
theorem dX7_off_21 : decode cX7_off 21 = .ok (.aload_n 0, 1) := by decide +kernel
theorem dX7_off_22 : decode cX7_off 22 = .ok (.iload_n 1, 1) := by decide +kernel
theorem dX7_off_23 : decode cX7_off 23 = .ok (.invokevirtual 219, 3) := by decide +kernel
theorem dX7_off_26 : decode cX7_off 26 = .ok (.aload_n 0, 1) := by decide +kernel
theorem dX7_off_27 : decode cX7_off 27 = .ok (.getfield 31, 3) := by decide +kernel
theorem dX7_off_30 : decode cX7_off 30 = .ok (.getfield 222, 3) := by decide +kernel
theorem dX7_off_33 : decode cX7_off 33 = .ok (.istore_n 2, 1) := by decide +kernel
theorem dX7_off_34 : decode cX7_off 34 = .ok (.aload_n 0, 1) := by decide +kernel
theorem dX7_off_35 : decode cX7_off 35 = .ok (.invokevirtual 191, 3) := by decide +kernel
theorem dX7_off_38 : decode cX7_off 38 = .ok (.iload_n 1, 1) := by decide +kernel
theorem dX7_off_39 : decode cX7_off 39 = .ok (.ifCond .le 18, 3) := by decide +kernel
theorem dX7_off_57 : decode cX7_off 57 = .ok (.aload_n 0, 1) := by decide +kernel
theorem dX7_off_58 : decode cX7_off 58 = .ok (.getfield 31, 3) := by decide +kernel
theorem dX7_off_61 : decode cX7_off 61 = .ok (.getfield 222, 3) := by decide +kernel
theorem dX7_off_64 : decode cX7_off 64 = .ok (.iload_n 2, 1) := by decide +kernel
theorem dX7_off_65 : decode cX7_off 65 = .ok (.isub, 1) := by decide +kernel
theorem dX7_off_66 : decode cX7_off 66 = .ok (.ireturn, 1) := by decide +kernel
theorem dX7_off_42 : decode cX7_off 42 = .ok (.aload_n 0, 1) := by decide +kernel
theorem dX7_off_43 : decode cX7_off 43 = .ok (.getfield 31, 3) := by decide +kernel
theorem dX7_off_46 : decode cX7_off 46 = .ok (.iconst 1, 1) := by decide +kernel
theorem dX7_off_47 : decode cX7_off 47 = .ok (.invokevirtual 240, 3) := by decide +kernel
theorem dX7_off_50 : decode cX7_off 50 = .ok (.aload_n 0, 1) := by decide +kernel
theorem dX7_off_51 : decode cX7_off 51 = .ok (.iload_n 1, 1) := by decide +kernel
theorem dX7_off_52 : decode cX7_off 52 = .ok (.iconst 1, 1) := by decide +kernel
theorem dX7_off_53 : decode cX7_off 53 = .ok (.isub, 1) := by decide +kernel
theorem dX7_off_54 : decode cX7_off 54 = .ok (.invokevirtual 219, 3) := by decide +kernel
theorem dX7_off_10 : decode cX7_off 10 = .ok (.aload_n 0, 1) := by decide +kernel
theorem dX7_off_11 : decode cX7_off 11 = .ok (.ldc 68, 2) := by decide +kernel
theorem dX7_off_13 : decode cX7_off 13 = .ok (.invokevirtual 69, 3) := by decide +kernel
theorem dX7_off_16 : decode cX7_off 16 = .ok (.ireturn, 1) := by decide +kernel
theorem dX7_start_0 : decode cX7_start 0 = .ok (.iload_n 1, 1) := by decide +kernel
theorem dX7_start_1 : decode cX7_start 1 = .ok (.iconst 0, 1) := by decide +kernel
theorem dX7_start_2 : decode cX7_start 2 = .ok (.bipush 60, 2) := by decide +kernel
theorem dX7_start_4 : decode cX7_start 4 = .ok (.invokestatic 60, 3) := by decide +kernel
theorem dX7_start_7 : decode cX7_start 7 = .ok (.ifCond .eq 12, 3) := by decide +kernel
theorem dX7_start_10 : decode cX7_start 10 = .ok (.iload_n 2, 1) := by decide +kernel
theorem dX7_start_11 : decode cX7_start 11 = .ok (.iconst 0, 1) := by decide +kernel
theorem dX7_start_12 : decode cX7_start 12 = .ok (.iconst 1, 1) := by decide +kernel
theorem dX7_start_13 : decode cX7_start 13 = .ok (.invokestatic 60, 3) := by decide +kernel
theorem dX7_start_16 : decode cX7_start 16 = .ok (.ifCond .ne 10, 3) := by decide +kernel
theorem dX7_start_26 : decode cX7_start 26 = .ok (.iconst 0, 1) := by decide +kernel
theorem dX7_start_27 : decode cX7_start 27 = .ok (.istore_n 3, 1) := by decide +kernel
theorem dX7_start_28 : decode cX7_start 28 = .ok (.iconst (-1), 1) := by decide +kernel
theorem dX7_start_29 : decode cX7_start 29 = .ok (.istore 4, 2) := by decide +kernel
theorem dX7_start_31 : decode cX7_start 31 = .ok (.iconst 0, 1) := by decide +kernel
theorem dX7_start_32 : decode cX7_start 32 = .ok (.istore 5, 2) := by decide +kernel
theorem dX7_start_34 : decode cX7_start 34 = .ok (.iload 5, 2) := by decide +kernel
theorem dX7_start_36 : decode cX7_start 36 = .ok (.bipush 10, 2) := by decide +kernel
theorem dX7_start_38 : decode cX7_start 38 = .ok (.if_icmp .ge 51, 3) := by decide +kernel
theorem dX7_start_41 : decode cX7_start 41 = .ok (.aload_n 0, 1) := by decide +kernel
theorem dX7_start_42 : decode cX7_start 42 = .ok (.invokevirtual 191, 3) := by decide +kernel
theorem dX7_start_45 : decode cX7_start 45 = .ok (.aload_n 0, 1) := by decide +kernel
theorem dX7_start_46 : decode cX7_start 46 = .ok (.getfield 31, 3) := by decide +kernel
theorem dX7_start_49 : decode cX7_start 49 = .ok (.iload 5, 2) := by decide +kernel
theorem dX7_start_51 : decode cX7_start 51 = .ok (.putfield 201, 3) := by decide +kernel
theorem dX7_start_54 : decode cX7_start 54 = .ok (.aload_n 0, 1) := by decide +kernel
theorem dX7_start_55 : decode cX7_start 55 = .ok (.iload_n 1, 1) := by decide +kernel
theorem dX7_start_56 : decode cX7_start 56 = .ok (.invokevirtual 194, 3) := by decide +kernel
theorem dX7_start_59 : decode cX7_start 59 = .ok (.aload_n 0, 1) := by decide +kernel
theorem dX7_start_60 : decode cX7_start 60 = .ok (.getfield 31, 3) := by decide +kernel
theorem dX7_start_63 : decode cX7_start 63 = .ok (.invokevirtual 182, 3) := by decide +kernel
theorem dX7_start_66 : decode cX7_start 66 = .ok (.iload 4, 2) := by decide +kernel
theorem dX7_start_68 : decode cX7_start 68 = .ok (.if_icmp .le 15, 3) := by decide +kernel
theorem dX7_start_71 : decode cX7_start 71 = .ok (.iload 5, 2) := by decide +kernel
theorem dX7_start_73 : decode cX7_start 73 = .ok (.istore_n 3, 1) := by decide +kernel
theorem dX7_start_74 : decode cX7_start 74 = .ok (.aload_n 0, 1) := by decide +kernel
theorem dX7_start_75 : decode cX7_start 75 = .ok (.getfield 31, 3) := by decide +kernel
theorem dX7_start_78 : decode cX7_start 78 = .ok (.invokevirtual 182, 3) := by decide +kernel
theorem dX7_start_81 : decode cX7_start 81 = .ok (.istore 4, 2) := by decide +kernel
theorem dX7_start_83 : decode cX7_start 83 = .ok (.iinc 5 1, 3) := by decide +kernel
theorem dX7_start_86 : decode cX7_start 86 = .ok (.goto (-52), 3) := by decide +kernel
theorem dX7_start_89 : decode cX7_start 89 = .ok (.iload_n 2, 1) := by decide +kernel
theorem dX7_start_90 : decode cX7_start 90 = .ok (.ifCond .ne 7, 3) := by decide +kernel
theorem dX7_start_97 : decode cX7_start 97 = .ok (.iload 4, 2) := by decide +kernel
theorem dX7_start_99 : decode cX7_start 99 = .ok (.ireturn, 1) := by decide +kernel
theorem dX7_start_93 : decode cX7_start 93 = .ok (.iload_n 3, 1) := by decide +kernel
theorem dX7_start_94 : decode cX7_start 94 = .ok (.goto 5, 3) := by decide +kernel
theorem dX7_start_19 : decode cX7_start 19 = .ok (.aload_n 0, 1) := by decide +kernel
theorem dX7_start_20 : decode cX7_start 20 = .ok (.ldc 68, 2) := by decide +kernel
theorem dX7_start_22 : decode cX7_start 22 = .ok (.invokevirtual 69, 3) := by decide +kernel
theorem dX7_start_25 : decode cX7_start 25 = .ok (.ireturn, 1) := by decide +kernel
theorem dX7_pace_0 : decode cX7_pace 0 = .ok (.iload_n 1, 1) := by decide +kernel
theorem dX7_pace_1 : decode cX7_pace 1 = .ok (.iconst 0, 1) := by decide +kernel
theorem dX7_pace_2 : decode cX7_pace 2 = .ok (.bipush 60, 2) := by decide +kernel
theorem dX7_pace_4 : decode cX7_pace 4 = .ok (.invokestatic 60, 3) := by decide +kernel
theorem dX7_pace_7 : decode cX7_pace 7 = .ok (.ifCond .eq 12, 3) := by decide +kernel
theorem dX7_pace_10 : decode cX7_pace 10 = .ok (.iload_n 2, 1) := by decide +kernel
theorem dX7_pace_11 : decode cX7_pace 11 = .ok (.iconst 0, 1) := by decide +kernel
theorem dX7_pace_12 : decode cX7_pace 12 = .ok (.iconst 1, 1) := by decide +kernel
theorem dX7_pace_13 : decode cX7_pace 13 = .ok (.invokestatic 60, 3) := by decide +kernel
theorem dX7_pace_16 : decode cX7_pace 16 = .ok (.ifCond .ne 10, 3) := by decide +kernel
theorem dX7_pace_26 : decode cX7_pace 26 = .ok (.iconst 0, 1) := by decide +kernel
theorem dX7_pace_27 : decode cX7_pace 27 = .ok (.istore_n 3, 1) := by decide +kernel
theorem dX7_pace_28 : decode cX7_pace 28 = .ok (.iconst (-1), 1) := by decide +kernel
theorem dX7_pace_29 : decode cX7_pace 29 = .ok (.istore 4, 2) := by decide +kernel
theorem dX7_pace_31 : decode cX7_pace 31 = .ok (.iconst 0, 1) := by decide +kernel
theorem dX7_pace_32 : decode cX7_pace 32 = .ok (.istore 5, 2) := by decide +kernel
theorem dX7_pace_34 : decode cX7_pace 34 = .ok (.iload 5, 2) := by decide +kernel
theorem dX7_pace_36 : decode cX7_pace 36 = .ok (.bipush 10, 2) := by decide +kernel
theorem dX7_pace_38 : decode cX7_pace 38 = .ok (.if_icmp .ge 51, 3) := by decide +kernel
theorem dX7_pace_41 : decode cX7_pace 41 = .ok (.aload_n 0, 1) := by decide +kernel
theorem dX7_pace_42 : decode cX7_pace 42 = .ok (.invokevirtual 191, 3) := by decide +kernel
theorem dX7_pace_45 : decode cX7_pace 45 = .ok (.aload_n 0, 1) := by decide +kernel
theorem dX7_pace_46 : decode cX7_pace 46 = .ok (.getfield 31, 3) := by decide +kernel
theorem dX7_pace_49 : decode cX7_pace 49 = .ok (.iload 5, 2) := by decide +kernel
theorem dX7_pace_51 : decode cX7_pace 51 = .ok (.putfield 188, 3) := by decide +kernel
theorem dX7_pace_54 : decode cX7_pace 54 = .ok (.aload_n 0, 1) := by decide +kernel
theorem dX7_pace_55 : decode cX7_pace 55 = .ok (.iload_n 1, 1) := by decide +kernel
theorem dX7_pace_56 : decode cX7_pace 56 = .ok (.invokevirtual 194, 3) := by decide +kernel
theorem dX7_pace_59 : decode cX7_pace 59 = .ok (.aload_n 0, 1) := by decide +kernel
theorem dX7_pace_60 : decode cX7_pace 60 = .ok (.getfield 31, 3) := by decide +kernel
theorem dX7_pace_63 : decode cX7_pace 63 = .ok (.invokevirtual 182, 3) := by decide +kernel
theorem dX7_pace_66 : decode cX7_pace 66 = .ok (.iload 4, 2) := by decide +kernel
theorem dX7_pace_68 : decode cX7_pace 68 = .ok (.if_icmp .le 15, 3) := by decide +kernel
theorem dX7_pace_71 : decode cX7_pace 71 = .ok (.iload 5, 2) := by decide +kernel
theorem dX7_pace_73 : decode cX7_pace 73 = .ok (.istore_n 3, 1) := by decide +kernel
theorem dX7_pace_74 : decode cX7_pace 74 = .ok (.aload_n 0, 1) := by decide +kernel
theorem dX7_pace_75 : decode cX7_pace 75 = .ok (.getfield 31, 3) := by decide +kernel
theorem dX7_pace_78 : decode cX7_pace 78 = .ok (.invokevirtual 182, 3) := by decide +kernel
theorem dX7_pace_81 : decode cX7_pace 81 = .ok (.istore 4, 2) := by decide +kernel
theorem dX7_pace_83 : decode cX7_pace 83 = .ok (.iinc 5 1, 3) := by decide +kernel
theorem dX7_pace_86 : decode cX7_pace 86 = .ok (.goto (-52), 3) := by decide +kernel
theorem dX7_pace_89 : decode cX7_pace 89 = .ok (.iload_n 2, 1) := by decide +kernel
theorem dX7_pace_90 : decode cX7_pace 90 = .ok (.ifCond .ne 7, 3) := by decide +kernel
theorem dX7_pace_97 : decode cX7_pace 97 = .ok (.iload 4, 2) := by decide +kernel
theorem dX7_pace_99 : decode cX7_pace 99 = .ok (.ireturn, 1) := by decide +kernel
theorem dX7_pace_93 : decode cX7_pace 93 = .ok (.iload_n 3, 1) := by decide +kernel
theorem dX7_pace_94 : decode cX7_pace 94 = .ok (.goto 5, 3) := by decide +kernel
theorem dX7_pace_19 : decode cX7_pace 19 = .ok (.aload_n 0, 1) := by decide +kernel
theorem dX7_pace_20 : decode cX7_pace 20 = .ok (.ldc 68, 2) := by decide +kernel
theorem dX7_pace_22 : decode cX7_pace 22 = .ok (.invokevirtual 69, 3) := by decide +kernel
theorem dX7_pace_25 : decode cX7_pace 25 = .ok (.ireturn, 1) := by decide +kernel
theorem dX7_first_0 : decode cX7_first 0 = .ok (.iload_n 1, 1) := by decide +kernel
theorem dX7_first_1 : decode cX7_first 1 = .ok (.iconst 0, 1) := by decide +kernel
theorem dX7_first_2 : decode cX7_first 2 = .ok (.bipush 60, 2) := by decide +kernel
theorem dX7_first_4 : decode cX7_first 4 = .ok (.invokestatic 60, 3) := by decide +kernel
theorem dX7_first_7 : decode cX7_first 7 = .ok (.ifCond .eq 12, 3) := by decide +kernel
theorem dX7_first_10 : decode cX7_first 10 = .ok (.iload_n 2, 1) := by decide +kernel
theorem dX7_first_11 : decode cX7_first 11 = .ok (.iconst 0, 1) := by decide +kernel
theorem dX7_first_12 : decode cX7_first 12 = .ok (.iconst 1, 1) := by decide +kernel
theorem dX7_first_13 : decode cX7_first 13 = .ok (.invokestatic 60, 3) := by decide +kernel
theorem dX7_first_16 : decode cX7_first 16 = .ok (.ifCond .ne 10, 3) := by decide +kernel
theorem dX7_first_26 : decode cX7_first 26 = .ok (.iconst (-1), 1) := by decide +kernel
theorem dX7_first_27 : decode cX7_first 27 = .ok (.istore_n 3, 1) := by decide +kernel
theorem dX7_first_28 : decode cX7_first 28 = .ok (.iconst 0, 1) := by decide +kernel
theorem dX7_first_29 : decode cX7_first 29 = .ok (.istore 4, 2) := by decide +kernel
theorem dX7_first_31 : decode cX7_first 31 = .ok (.iconst 0, 1) := by decide +kernel
theorem dX7_first_32 : decode cX7_first 32 = .ok (.istore 5, 2) := by decide +kernel
theorem dX7_first_34 : decode cX7_first 34 = .ok (.iload 5, 2) := by decide +kernel
theorem dX7_first_36 : decode cX7_first 36 = .ok (.aload_n 0, 1) := by decide +kernel
theorem dX7_first_37 : decode cX7_first 37 = .ok (.getfield 12, 3) := by decide +kernel
theorem dX7_first_40 : decode cX7_first 40 = .ok (.getfield 72, 3) := by decide +kernel
theorem dX7_first_43 : decode cX7_first 43 = .ok (.getfield 86, 3) := by decide +kernel
theorem dX7_first_46 : decode cX7_first 46 = .ok (.if_icmp .ge 60, 3) := by decide +kernel
theorem dX7_first_106 : decode cX7_first 106 = .ok (.iload_n 3, 1) := by decide +kernel
theorem dX7_first_107 : decode cX7_first 107 = .ok (.ifCond .ge 10, 3) := by decide +kernel
theorem dX7_first_110 : decode cX7_first 110 = .ok (.aload_n 0, 1) := by decide +kernel
theorem dX7_first_111 : decode cX7_first 111 = .ok (.ldc 197, 2) := by decide +kernel
theorem dX7_first_113 : decode cX7_first 113 = .ok (.invokevirtual 69, 3) := by decide +kernel
theorem dX7_first_116 : decode cX7_first 116 = .ok (.ireturn, 1) := by decide +kernel
theorem dX7_first_19 : decode cX7_first 19 = .ok (.aload_n 0, 1) := by decide +kernel
theorem dX7_first_20 : decode cX7_first 20 = .ok (.ldc 68, 2) := by decide +kernel
theorem dX7_first_22 : decode cX7_first 22 = .ok (.invokevirtual 69, 3) := by decide +kernel
theorem dX7_first_25 : decode cX7_first 25 = .ok (.ireturn, 1) := by decide +kernel
theorem dX7_last_0 : decode cX7_last 0 = .ok (.iload_n 1, 1) := by decide +kernel
theorem dX7_last_1 : decode cX7_last 1 = .ok (.iconst 0, 1) := by decide +kernel
theorem dX7_last_2 : decode cX7_last 2 = .ok (.iconst 1, 1) := by decide +kernel
theorem dX7_last_3 : decode cX7_last 3 = .ok (.invokestatic 60, 3) := by decide +kernel
theorem dX7_last_6 : decode cX7_last 6 = .ok (.ifCond .ne 10, 3) := by decide +kernel
theorem dX7_last_16 : decode cX7_last 16 = .ok (.aload_n 0, 1) := by decide +kernel
theorem dX7_last_17 : decode cX7_last 17 = .ok (.invokevirtual 191, 3) := by decide +kernel
theorem dX7_last_20 : decode cX7_last 20 = .ok (.iconst (-1), 1) := by decide +kernel
theorem dX7_last_21 : decode cX7_last 21 = .ok (.istore_n 2, 1) := by decide +kernel
theorem dX7_last_22 : decode cX7_last 22 = .ok (.iconst 0, 1) := by decide +kernel
theorem dX7_last_23 : decode cX7_last 23 = .ok (.istore_n 3, 1) := by decide +kernel
theorem dX7_last_24 : decode cX7_last 24 = .ok (.iconst 1, 1) := by decide +kernel
theorem dX7_last_25 : decode cX7_last 25 = .ok (.istore 4, 2) := by decide +kernel
theorem dX7_last_27 : decode cX7_last 27 = .ok (.iload 4, 2) := by decide +kernel
theorem dX7_last_29 : decode cX7_last 29 = .ok (.bipush 60, 2) := by decide +kernel
theorem dX7_last_31 : decode cX7_last 31 = .ok (.if_icmp .gt 54, 3) := by decide +kernel
theorem dX7_last_85 : decode cX7_last 85 = .ok (.iload_n 2, 1) := by decide +kernel
theorem dX7_last_86 : decode cX7_last 86 = .ok (.ifCond .ge 10, 3) := by decide +kernel
theorem dX7_last_89 : decode cX7_last 89 = .ok (.aload_n 0, 1) := by decide +kernel
theorem dX7_last_90 : decode cX7_last 90 = .ok (.ldc 197, 2) := by decide +kernel
theorem dX7_last_92 : decode cX7_last 92 = .ok (.invokevirtual 69, 3) := by decide +kernel
theorem dX7_last_95 : decode cX7_last 95 = .ok (.ireturn, 1) := by decide +kernel
theorem dX7_last_34 : decode cX7_last 34 = .ok (.aload_n 0, 1) := by decide +kernel
theorem dX7_last_35 : decode cX7_last 35 = .ok (.getfield 31, 3) := by decide +kernel
theorem dX7_last_38 : decode cX7_last 38 = .ok (.invokevirtual 198, 3) := by decide +kernel
theorem dX7_last_41 : decode cX7_last 41 = .ok (.istore 5, 2) := by decide +kernel
theorem dX7_last_43 : decode cX7_last 43 = .ok (.aload_n 0, 1) := by decide +kernel
theorem dX7_last_44 : decode cX7_last 44 = .ok (.getfield 31, 3) := by decide +kernel
theorem dX7_last_47 : decode cX7_last 47 = .ok (.iconst 0, 1) := by decide +kernel
theorem dX7_last_48 : decode cX7_last 48 = .ok (.invokevirtual 178, 3) := by decide +kernel
theorem dX7_last_51 : decode cX7_last 51 = .ok (.aload_n 0, 1) := by decide +kernel
theorem dX7_last_52 : decode cX7_last 52 = .ok (.getfield 31, 3) := by decide +kernel
theorem dX7_last_55 : decode cX7_last 55 = .ok (.invokevirtual 198, 3) := by decide +kernel
theorem dX7_last_58 : decode cX7_last 58 = .ok (.iload 5, 2) := by decide +kernel
theorem dX7_last_60 : decode cX7_last 60 = .ok (.iconst (-1), 1) := by decide +kernel
theorem dX7_last_61 : decode cX7_last 61 = .ok (.ixor, 1) := by decide +kernel
theorem dX7_last_62 : decode cX7_last 62 = .ok (.iand, 1) := by decide +kernel
theorem dX7_last_63 : decode cX7_last 63 = .ok (.istore 6, 2) := by decide +kernel
theorem dX7_last_65 : decode cX7_last 65 = .ok (.iload 6, 2) := by decide +kernel
theorem dX7_last_67 : decode cX7_last 67 = .ok (.ifCond .eq 12, 3) := by decide +kernel
theorem dX7_last_79 : decode cX7_last 79 = .ok (.iinc 4 1, 3) := by decide +kernel
theorem dX7_last_82 : decode cX7_last 82 = .ok (.goto (-55), 3) := by decide +kernel
theorem dX7_last_9 : decode cX7_last 9 = .ok (.aload_n 0, 1) := by decide +kernel
theorem dX7_last_10 : decode cX7_last 10 = .ok (.ldc 68, 2) := by decide +kernel
theorem dX7_last_12 : decode cX7_last 12 = .ok (.invokevirtual 69, 3) := by decide +kernel
theorem dX7_last_15 : decode cX7_last 15 = .ok (.ireturn, 1) := by decide +kernel
theorem dX7_check_0 : decode cX7_check 0 = .ok (.aload_n 0, 1) := by decide +kernel
theorem dX7_check_1 : decode cX7_check 1 = .ok (.getfield 12, 3) := by decide +kernel
theorem dX7_check_4 : decode cX7_check 4 = .ok (.getfield 304, 3) := by decide +kernel
theorem dX7_check_7 : decode cX7_check 7 = .ok (.istore_n 1, 1) := by decide +kernel
theorem dX7_check_8 : decode cX7_check 8 = .ok (.aload_n 0, 1) := by decide +kernel
theorem dX7_check_9 : decode cX7_check 9 = .ok (.getfield 12, 3) := by decide +kernel
theorem dX7_check_12 : decode cX7_check 12 = .ok (.iconst 0, 1) := by decide +kernel
theorem dX7_check_13 : decode cX7_check 13 = .ok (.putfield 304, 3) := by decide +kernel
theorem dX7_check_16 : decode cX7_check 16 = .ok (.aload_n 0, 1) := by decide +kernel
theorem dX7_check_17 : decode cX7_check 17 = .ok (.invokevirtual 191, 3) := by decide +kernel
theorem dX7_check_20 : decode cX7_check 20 = .ok (.iconst 0, 1) := by decide +kernel
theorem dX7_check_21 : decode cX7_check 21 = .ok (.istore_n 2, 1) := by decide +kernel
theorem dX7_check_22 : decode cX7_check 22 = .ok (.iload_n 2, 1) := by decide +kernel
theorem dX7_check_23 : decode cX7_check 23 = .ok (.iload_n 1, 1) := by decide +kernel
theorem dX7_check_24 : decode cX7_check 24 = .ok (.if_icmp .ge 40, 3) := by decide +kernel
theorem dX7_check_64 : decode cX7_check 64 = .ok (.iconst 0, 1) := by decide +kernel
theorem dX7_check_65 : decode cX7_check 65 = .ok (.ireturn, 1) := by decide +kernel
set_option maxRecDepth 100000 in
set_option maxHeartbeats 4000000 in
theorem c_think0 (l : Launch) (D : va_G) (y : wY) (ad : Nat → Nat) (M : Mem) (hm : M 12 3 = 0) : MV l D y ad yX7_think (Cond.code yX7_think cX7_think 1 none) 2 M [.ref (ad 0)] (fun M' => sm (fun b k => b == 49 && (3 ≤ k && k ≤ 8)) M M' ∧ M' 49 3 = M 12 3 ∧ M' 49 7 = M 12 7 ∧ M' 49 8 = M 12 8) := by
  refine MV_of (by decide) (Nat.le_of_ble_eq_true rfl) ?_
  intro p e s m args below meth c X hr hlocks
  refine j_lv (lv1 := [(0, .ref (ad 0))]) [0] rfl ?_
  refine j_aload_n X 0 rfl rfl dX7_think_0 ?_
  refine j_get X (by decide) (wE_7 _ rfl) rfl awF7 2 (by decide) aw_21 rfl (v := .ref (ad 49)) rfl dX7_think_1 ?_
  refine j_aload_n X 0 rfl rfl dX7_think_4 ?_
  refine j_get X (by decide) (wE_7 _ rfl) rfl awF7 0 (by decide) aw_16 rfl (v := .ref (ad 1)) rfl dX7_think_5 ?_
  refine j_getN X (by decide) (wE_6 _ rfl) rfl awF6 2 (by decide) (List.mem_of_getElem? (i := 23) rfl) rfl (v := .ref (ad 12)) rfl dX7_think_8 ?_
  refine j_callVNV X (nn := 1) (As := [.ref (ad 12)]) (st := []) (ci := 0) (by decide) (wE_0 _ rfl) rfl aw_537 aw_538 (c_copyFrom0_49 l D y ad M hm) (List.mem_of_getElem? (i := 33) rfl) aw_539 aw_20 (by decide +kernel) ⟨by decide, by decide⟩ rfl (Nat.le_of_ble_eq_true rfl) ⟨by decide, by decide⟩ dX7_think_11 ?_
  rintro M_2 ⟨s_1, s_1_3, s_1_7, s_1_8⟩
  exact j_vret X hr hlocks dX7_think_14 ⟨s_1, s_1_3, s_1_7, s_1_8⟩
set_option maxRecDepth 100000 in
set_option maxHeartbeats 4000000 in
theorem c_thinkDays0 (l : Launch) (D : va_G) (y : wY) (ad : Nat → Nat) (M : Mem) (N : Nat) (hN : N ≤ 60) (hm : M 49 3 = 0) : MV l D y ad yX7_thinkDays (Cond.code yX7_thinkDays cX7_thinkDays 3 none) 3 M [.ref (ad 0), .int (nI N)] (fun M' => sm (fun b k => b == 49 && (k == 4 || k == 6)) M M') := by
  refine MV_of (by decide) (Nat.le_of_ble_eq_true rfl) ?_
  intro p e s m args below meth c X hr hlocks
  refine j_lv (lv1 := [(0, .ref (ad 0)), (1, .int (nI N))]) [0, 1] rfl ?_
  refine j_iconst X (v := 0) (by decide) dX7_thinkDays_0 ?_
  refine j_istore_n X [(2, .int 0), (0, .ref (ad 0)), (1, .int (nI N))] rfl (by decide) rfl dX7_thinkDays_1 ?_
  have loop1 : ∀ (n_1 i_1 : Nat) (M1 : Mem), i_1 ≤ N → N - i_1 < n_1 → sm (fun b k => b == 49 && (k == 4 || k == 6)) M M1 → J p l e (rmN 3) s m args below meth c 0 0 (QV (fun M' => sm (fun b k => b == 49 && (k == 4 || k == 6)) M M') D y ad M s args below) D y ad (va_A (PL y ad M) s.heap.size) 3 M1 2 [(2, .int (nI i_1)), (0, .ref (ad 0)), (1, .int (nI N))] [] := by
    intro n_1
    induction n_1 with
    | zero => intro i_1 M1 h1 h2; exact absurd h2 (by omega)
    | succ n_1 ih1 =>
      intro i_1 M1 h1i_1 h2i_1 hs1
      refine j_iload_n X 0 rfl rfl dX7_thinkDays_2 ?_
      refine j_iload_n X 2 rfl rfl dX7_thinkDays_3 ?_
      refine j_icmp_ge X 21 (by decide) dX7_thinkDays_4 (fun c_2 => ?_) (fun c_2 => ?_)
      · have c_2 := (nI_leI (by omega) (by omega)).mp (show nI (N) ≤ nI i_1 from c_2)
        exact j_vret X hr hlocks dX7_thinkDays_21 hs1
      · have c_2 : i_1 < N := by
          rcases Nat.lt_or_ge i_1 (N) with g | g
          · exact g
          · exact absurd (show nI (N) ≤ nI i_1 from nI_le g (by omega)) c_2
        refine j_aload_n X 1 rfl rfl dX7_thinkDays_7 ?_
        refine j_get X (by decide) (wE_7 _ rfl) rfl awF7 2 (by decide) aw_21 rfl (v := .ref (ad 49)) rfl dX7_thinkDays_8 ?_
        refine j_iconst X (v := 0) (by decide) dX7_thinkDays_11 ?_
        refine j_callVNV X (nn := 1) (As := [.int 0]) (st := []) (ci := 0) (by decide) (wE_0 _ rfl) rfl aw_439 aw_440 (c_passDay0_49 l D y ad M1 ((hs1 49 3 rfl).trans hm) 0) (List.mem_of_getElem? (i := 27) rfl) aw_441 aw_20 (by decide +kernel) ⟨by decide, by decide⟩ rfl (Nat.le_of_ble_eq_true rfl) ⟨by decide, by decide⟩ dX7_thinkDays_12 ?_
        rintro M_4 s_3
        refine j_iinc X (v := (nI (i_1 + 1))) 0 [(2, .int (nI (i_1 + 1))), (0, .ref (ad 0)), (1, .int (nI N))] rfl (nI_1 i_1) (by decide) rfl dX7_thinkDays_15 ?_
        refine j_goto X 2 (by decide) dX7_thinkDays_18 ?_
        refine j_lv (lv1 := [(2, .int (nI (i_1 + 1))), (0, .ref (ad 0)), (1, .int (nI N))]) [0, 1, 2] rfl ?_
        exact ih1 (i_1 + 1) _ (by omega) (by omega) (sm_tr hs1 (sm_w s_3 (by intro b k hb; simp only [Bool.or_eq_false_iff, Bool.and_eq_false_iff, beq_eq_false_iff_ne, ne_eq, decide_eq_false_iff_not] at hb ⊢; omega)))
  refine j_lv (lv1 := [(2, .int (nI 0)), (0, .ref (ad 0)), (1, .int (nI N))]) [0, 1, 2] rfl ?_
  exact loop1 (N + 1) 0 _ (by omega) (by omega) sm_rf
set_option maxRecDepth 100000 in
set_option maxHeartbeats 4000000 in
theorem c_thinkDaysWithHarm0 (l : Launch) (D : va_G) (y : wY) (ad : Nat → Nat) (M : Mem) (N : Nat) (hN : N ≤ 60) (hm : M 49 3 = 0) : MV l D y ad yX7_thinkDaysWithHarm (Cond.code yX7_thinkDaysWithHarm cX7_thinkDaysWithHarm 3 none) 3 M [.ref (ad 0), .int (nI N)] (fun M' => sm (fun b k => b == 49 && (k == 4 || k == 6)) M M') := by
  refine MV_of (by decide) (Nat.le_of_ble_eq_true rfl) ?_
  intro p e s m args below meth c X hr hlocks
  refine j_lv (lv1 := [(0, .ref (ad 0)), (1, .int (nI N))]) [0, 1] rfl ?_
  refine j_iconst X (v := 0) (by decide) dX7_thinkDaysWithHarm_0 ?_
  refine j_istore_n X [(2, .int 0), (0, .ref (ad 0)), (1, .int (nI N))] rfl (by decide) rfl dX7_thinkDaysWithHarm_1 ?_
  have loop1 : ∀ (n_1 i_1 : Nat) (M1 : Mem), i_1 ≤ N → N - i_1 < n_1 → sm (fun b k => b == 49 && (k == 4 || k == 6)) M M1 → J p l e (rmN 3) s m args below meth c 0 0 (QV (fun M' => sm (fun b k => b == 49 && (k == 4 || k == 6)) M M') D y ad M s args below) D y ad (va_A (PL y ad M) s.heap.size) 3 M1 2 [(2, .int (nI i_1)), (0, .ref (ad 0)), (1, .int (nI N))] [] := by
    intro n_1
    induction n_1 with
    | zero => intro i_1 M1 h1 h2; exact absurd h2 (by omega)
    | succ n_1 ih1 =>
      intro i_1 M1 h1i_1 h2i_1 hs1
      refine j_iload_n X 0 rfl rfl dX7_thinkDaysWithHarm_2 ?_
      refine j_iload_n X 2 rfl rfl dX7_thinkDaysWithHarm_3 ?_
      refine j_icmp_ge X 21 (by decide) dX7_thinkDaysWithHarm_4 (fun c_2 => ?_) (fun c_2 => ?_)
      · have c_2 := (nI_leI (by omega) (by omega)).mp (show nI (N) ≤ nI i_1 from c_2)
        exact j_vret X hr hlocks dX7_thinkDaysWithHarm_21 hs1
      · have c_2 : i_1 < N := by
          rcases Nat.lt_or_ge i_1 (N) with g | g
          · exact g
          · exact absurd (show nI (N) ≤ nI i_1 from nI_le g (by omega)) c_2
        refine j_aload_n X 1 rfl rfl dX7_thinkDaysWithHarm_7 ?_
        refine j_get X (by decide) (wE_7 _ rfl) rfl awF7 2 (by decide) aw_21 rfl (v := .ref (ad 49)) rfl dX7_thinkDaysWithHarm_8 ?_
        refine j_iconst X (v := 1) (by decide) dX7_thinkDaysWithHarm_11 ?_
        refine j_callVNV X (nn := 1) (As := [.int 1]) (st := []) (ci := 0) (by decide) (wE_0 _ rfl) rfl aw_439 aw_440 (c_passDay0_49 l D y ad M1 ((hs1 49 3 rfl).trans hm) 1) (List.mem_of_getElem? (i := 27) rfl) aw_441 aw_20 (by decide +kernel) ⟨by decide, by decide⟩ rfl (Nat.le_of_ble_eq_true rfl) ⟨by decide, by decide⟩ dX7_thinkDaysWithHarm_12 ?_
        rintro M_4 s_3
        refine j_iinc X (v := (nI (i_1 + 1))) 0 [(2, .int (nI (i_1 + 1))), (0, .ref (ad 0)), (1, .int (nI N))] rfl (nI_1 i_1) (by decide) rfl dX7_thinkDaysWithHarm_15 ?_
        refine j_goto X 2 (by decide) dX7_thinkDaysWithHarm_18 ?_
        refine j_lv (lv1 := [(2, .int (nI (i_1 + 1))), (0, .ref (ad 0)), (1, .int (nI N))]) [0, 1, 2] rfl ?_
        exact ih1 (i_1 + 1) _ (by omega) (by omega) (sm_tr hs1 (sm_w s_3 (by intro b k hb; simp only [Bool.or_eq_false_iff, Bool.and_eq_false_iff, beq_eq_false_iff_ne, ne_eq, decide_eq_false_iff_not] at hb ⊢; omega)))
  refine j_lv (lv1 := [(2, .int (nI 0)), (0, .ref (ad 0)), (1, .int (nI N))]) [0, 1, 2] rfl ?_
  exact loop1 (N + 1) 0 _ (by omega) (by omega) sm_rf
set_option maxRecDepth 100000 in
set_option maxHeartbeats 4000000 in
theorem c0_X7_days (l : Launch) (D : va_G) (y : wY) (ad : Nat → Nat) (M : Mem) (hz : Z0 M) (n : Int32) : MI l D y ad yX7_days (Cond.code yX7_days cX7_days 3 (some .int)) 6 M [.ref (ad 0), .int n] (fun r _ => sp_days n = r) := by
  refine MI_of (by decide) (Nat.le_of_ble_eq_true rfl) ?_
  intro p e s m args below meth c X hr hlocks
  refine j_lv (lv1 := [(0, .ref (ad 0)), (1, .int n)]) [0, 1] rfl ?_
  refine j_iload_n X 1 rfl rfl dX7_days_0 ?_
  refine j_iconst X (v := 1) (by decide) dX7_days_1 ?_
  refine j_bipush X (v := 60) (by decide) dX7_days_2 ?_
  refine j_callSI X (nn := 3) (As := [.int n, .int 1, .int 60]) (st := []) aw_110 (c_X7_isWithin l D y ad M n 1 60 1 60 (by decide) (by decide)) aw_109 aw_111 aw_2 (by decide +kernel) ⟨by decide, by decide⟩ rfl (Nat.le_of_ble_eq_true rfl) ⟨by decide, by decide⟩ dX7_days_4 ?_
  rintro r_ M1_ (⟨rfl, rfl, h_1⟩ | ⟨rfl, rfl, h_1⟩)
  · refine j_if_ne X 17 (by decide) dX7_days_7 (fun c_2 => ?_) (fun c_2 => False.elim (by revert c_2; decide))
    obtain ⟨N, hN, rfl⟩ := nI_oft (x := n) (n := 60) (by omega) (by omega) (by decide)
    rw [nI_ti hN (by decide)] at h_1
    refine j_aload_n X 0 rfl rfl dX7_days_17 ?_
    refine j_get X (by decide) (wE_7 _ rfl) rfl awF7 0 (by decide) aw_16 rfl (v := .ref (ad 1)) rfl dX7_days_18 ?_
    refine j_getN X (by decide) (wE_6 _ rfl) rfl awF6 2 (by decide) (List.mem_of_getElem? (i := 23) rfl) rfl (v := .ref (ad 12)) rfl dX7_days_21 ?_
    refine j_getN X (by decide) (wE_0 _ rfl) rfl awF0 6 (by decide) (List.mem_of_getElem? (i := 18) rfl) rfl (v := .int (M 12 6)) rfl dX7_days_24 ?_
    refine j_eqi (v := 0) hz.2.2.2.1 ?_
    refine j_iload_n X 1 rfl rfl dX7_days_27 ?_
    refine j_iadd X dX7_days_28 ?_
    refine j_eqi (v := (nI N)) (Int32.zero_add _) ?_
    refine j_sipush X (v := 9999) (by decide) dX7_days_29 ?_
    refine j_icmp_le X 42 (by decide) dX7_days_32 (fun c_3 => ?_) (fun c_3 => False.elim (c_3 (show nI N ≤ nI 9999 from nI_le (by omega) (by decide))))
    refine j_iconst X (v := 0) (by decide) dX7_days_42 ?_
    refine j_istore_n X [(2, .int 0), (0, .ref (ad 0)), (1, .int (nI N))] rfl (by decide) rfl dX7_days_43 ?_
    have loop4 : ∀ (n_4 i_4 : Nat) (M4 : Mem), i_4 ≤ N → N - i_4 < n_4 → sm (fun b k => b == 12 && (k == 4 || k == 6)) M M4 → J p l e (rmN 6) s m args below meth c 0 0 (QI (fun r _ => sp_days n = r) D y ad M s args below) D y ad (va_A (PL y ad M) s.heap.size) 3 M4 44 [(2, .int (nI i_4)), (0, .ref (ad 0)), (1, .int (nI N))] [] := by
      intro n_4
      induction n_4 with
      | zero => intro i_4 M4 h1 h2; exact absurd h2 (by omega)
      | succ n_4 ih4 =>
        intro i_4 M4 h1i_4 h2i_4 hs4
        refine j_iload_n X 0 rfl rfl dX7_days_44 ?_
        refine j_iload_n X 2 rfl rfl dX7_days_45 ?_
        refine j_icmp_ge X 66 (by decide) dX7_days_46 (fun c_5 => ?_) (fun c_5 => ?_)
        · have c_5 := (nI_leI (by omega) (by omega)).mp (show nI (N) ≤ nI i_4 from c_5)
          refine j_aload_n X 1 rfl rfl dX7_days_66 ?_
          refine j_get X (by decide) (wE_7 _ rfl) rfl awF7 0 (by decide) aw_16 rfl (v := .ref (ad 1)) rfl dX7_days_67 ?_
          refine j_getN X (by decide) (wE_6 _ rfl) rfl awF6 2 (by decide) (List.mem_of_getElem? (i := 23) rfl) rfl (v := .ref (ad 12)) rfl dX7_days_70 ?_
          refine j_callVNI X (nn := 0) (As := []) (st := []) (ci := 0) (by decide) (wE_0 _ rfl) rfl aw_462 aw_463 (c_endedMany0_12 l D y ad M4 ((hs4 12 3 rfl).trans hz.1)) (List.mem_of_getElem? (i := 31) rfl) aw_464 aw_20 (by decide +kernel) ⟨by decide, by decide⟩ rfl (Nat.le_of_ble_eq_true rfl) ⟨by decide, by decide⟩ dX7_days_73 ?_
          rintro r_ M1_ ⟨rfl, rfl⟩
          exact j_iret X hr hlocks dX7_days_76 (by unfold sp_days; rw [nI_ti hN (by decide)]; (repeat' split) <;> first | rfl | omega | (exfalso; omega))
        · have c_5 : i_4 < N := by
            rcases Nat.lt_or_ge i_4 (N) with g | g
            · exact g
            · exact absurd (show nI (N) ≤ nI i_4 from nI_le g (by omega)) c_5
          refine j_aload_n X 1 rfl rfl dX7_days_49 ?_
          refine j_get X (by decide) (wE_7 _ rfl) rfl awF7 0 (by decide) aw_16 rfl (v := .ref (ad 1)) rfl dX7_days_50 ?_
          refine j_getN X (by decide) (wE_6 _ rfl) rfl awF6 2 (by decide) (List.mem_of_getElem? (i := 23) rfl) rfl (v := .ref (ad 12)) rfl dX7_days_53 ?_
          refine j_iconst X (v := 1) (by decide) dX7_days_56 ?_
          refine j_callVNV X (nn := 1) (As := [.int 1]) (st := []) (ci := 0) (by decide) (wE_0 _ rfl) rfl aw_439 aw_440 (c_passDay0_12 l D y ad M4 ((hs4 12 3 rfl).trans hz.1) 1) (List.mem_of_getElem? (i := 27) rfl) aw_441 aw_20 (by decide +kernel) ⟨by decide, by decide⟩ rfl (Nat.le_of_ble_eq_true rfl) ⟨by decide, by decide⟩ dX7_days_57 ?_
          rintro M_7 s_6
          refine j_iinc X (v := (nI (i_4 + 1))) 0 [(2, .int (nI (i_4 + 1))), (0, .ref (ad 0)), (1, .int (nI N))] rfl (nI_1 i_4) (by decide) rfl dX7_days_60 ?_
          refine j_goto X 44 (by decide) dX7_days_63 ?_
          refine j_lv (lv1 := [(2, .int (nI (i_4 + 1))), (0, .ref (ad 0)), (1, .int (nI N))]) [0, 1, 2] rfl ?_
          exact ih4 (i_4 + 1) _ (by omega) (by omega) (sm_tr hs4 (sm_w s_6 (by intro b k hb; simp only [Bool.or_eq_false_iff, Bool.and_eq_false_iff, beq_eq_false_iff_ne, ne_eq, decide_eq_false_iff_not] at hb ⊢; omega)))
    refine j_lv (lv1 := [(2, .int (nI 0)), (0, .ref (ad 0)), (1, .int (nI N))]) [0, 1, 2] rfl ?_
    exact loop4 (N + 1) 0 _ (by omega) (by omega) sm_rf
  · refine j_if_ne X 17 (by decide) dX7_days_7 (fun c_8 => False.elim (by revert c_8; decide)) (fun c_8 => ?_)
    refine j_aload_n X 0 rfl rfl dX7_days_10 ?_
    refine j_ldc X (v := (-1000000001)) aw_108 dX7_days_11 ?_
    refine j_callVI X (nn := 1) (As := [.int (-1000000001)]) (st := []) (ci := 7) (by decide) (wE_7 _ rfl) rfl aw_117 aw_118 (c_X7_refuse l D y ad M (-1000000001) 1 (by decide) (by decide)) aw_116 aw_119 aw_2 (by decide +kernel) ⟨by decide, by decide⟩ rfl (Nat.le_of_ble_eq_true rfl) ⟨by decide, by decide⟩ dX7_days_13 ?_
    rintro r_ M1_ ⟨rfl, rfl⟩
    exact j_iret X hr hlocks dX7_days_16 (by unfold sp_days; (repeat' split) <;> first | rfl | omega | (exfalso; omega))
set_option maxRecDepth 100000 in
set_option maxHeartbeats 4000000 in
theorem c_draw (l : Launch) (D : va_G) (y : wY) (ad : Nat → Nat) (M : Mem)  : MI l D y ad yX6_draw (Cond.code yX6_draw cX6_draw 1 (some .int)) 0 M [.ref (ad 1)] (fun r M' => sm (fun b k => b == 1 && k == 7) M M') := by
  refine MI_of (by decide) (Nat.le_of_ble_eq_true rfl) ?_
  intro p e s m args below meth c X hr hlocks
  refine j_lv (lv1 := [(0, .ref (ad 1))]) [0] rfl ?_
  refine j_aload_n X 0 rfl rfl dX6_draw_0 ?_
  refine j_aload_n X 0 rfl rfl dX6_draw_1 ?_
  refine j_get X (by decide) (wE_6 _ rfl) rfl awF6 7 (by decide) aw_48 rfl (v := .int (M 1 7)) rfl dX6_draw_2 ?_
  refine j_ldc X (v := 1103515245) aw_519 dX6_draw_5 ?_
  refine j_imul X dX6_draw_7 ?_
  refine j_sipush X (v := 12345) (by decide) dX6_draw_8 ?_
  refine j_iadd X dX6_draw_11 ?_
  refine j_put X (up M 1 7 (((M 1 7) * 1103515245) + 12345)) up_o (by decide) (wE_6 _ rfl) rfl awF6 7 (by decide) (wP_6_7 _ _ rfl) tyX6 tyX6_ok nmX6 rfl (ty := .int) (by decide +kernel) rfl rfl (Nat.le_of_ble_eq_true rfl) aw_48 rfl dX6_draw_12 ?_
  refine j_aload_n X 0 rfl rfl dX6_draw_15 ?_
  refine j_get X (by decide) (wE_6 _ rfl) rfl awF6 7 (by decide) aw_48 rfl (v := .int ((up M 1 7 (((M 1 7) * 1103515245) + 12345)) 1 7)) rfl dX6_draw_16 ?_
  refine j_eqi (v := (((M 1 7) * 1103515245) + 12345)) (by simp [up]) ?_
  refine j_bipush X (v := 8) (by decide) dX6_draw_19 ?_
  refine j_iushr X dX6_draw_21 ?_
  exact j_iret X hr hlocks dX6_draw_22 (sm_up sm_rf rfl)
set_option maxRecDepth 100000 in
set_option maxHeartbeats 4000000 in
theorem c0_X7_loose (l : Launch) (D : va_G) (y : wY) (ad : Nat → Nat) (M : Mem) (hz : Z0 M) (n : Int32) : MI l D y ad yX7_loose (Cond.code yX7_loose cX7_loose 3 (some .int)) 6 M [.ref (ad 0), .int n] (fun r _ => sp_loose n = r) := by
  refine MI_of (by decide) (Nat.le_of_ble_eq_true rfl) ?_
  intro p e s m args below meth c X hr hlocks
  refine j_lv (lv1 := [(0, .ref (ad 0)), (1, .int n)]) [0, 1] rfl ?_
  refine j_iload_n X 1 rfl rfl dX7_loose_0 ?_
  refine j_iconst X (v := 1) (by decide) dX7_loose_1 ?_
  refine j_bipush X (v := 40) (by decide) dX7_loose_2 ?_
  refine j_callSI X (nn := 3) (As := [.int n, .int 1, .int 40]) (st := []) aw_110 (c_X7_isWithin l D y ad M n 1 40 1 40 (by decide) (by decide)) aw_109 aw_111 aw_2 (by decide +kernel) ⟨by decide, by decide⟩ rfl (Nat.le_of_ble_eq_true rfl) ⟨by decide, by decide⟩ dX7_loose_4 ?_
  rintro r_ M1_ (⟨rfl, rfl, h_1⟩ | ⟨rfl, rfl, h_1⟩)
  · refine j_if_ne X 17 (by decide) dX7_loose_7 (fun c_2 => ?_) (fun c_2 => False.elim (by revert c_2; decide))
    obtain ⟨N, hN, rfl⟩ := nI_oft (x := n) (n := 40) (by omega) (by omega) (by decide)
    rw [nI_ti hN (by decide)] at h_1
    refine j_aload_n X 0 rfl rfl dX7_loose_17 ?_
    refine j_get X (by decide) (wE_7 _ rfl) rfl awF7 0 (by decide) aw_16 rfl (v := .ref (ad 1)) rfl dX7_loose_18 ?_
    refine j_getN X (by decide) (wE_6 _ rfl) rfl awF6 2 (by decide) (List.mem_of_getElem? (i := 23) rfl) rfl (v := .ref (ad 12)) rfl dX7_loose_21 ?_
    refine j_getN X (by decide) (wE_0 _ rfl) rfl awF0 6 (by decide) (List.mem_of_getElem? (i := 18) rfl) rfl (v := .int (M 12 6)) rfl dX7_loose_24 ?_
    refine j_eqi (v := 0) hz.2.2.2.1 ?_
    refine j_iload_n X 1 rfl rfl dX7_loose_27 ?_
    refine j_iadd X dX7_loose_28 ?_
    refine j_eqi (v := (nI N)) (Int32.zero_add _) ?_
    refine j_sipush X (v := 9999) (by decide) dX7_loose_29 ?_
    refine j_icmp_le X 42 (by decide) dX7_loose_32 (fun c_3 => ?_) (fun c_3 => False.elim (c_3 (show nI N ≤ nI 9999 from nI_le (by omega) (by decide))))
    refine j_iconst X (v := 0) (by decide) dX7_loose_42 ?_
    refine j_istore_n X [(2, .int 0), (0, .ref (ad 0)), (1, .int (nI N))] rfl (by decide) rfl dX7_loose_43 ?_
    have loop4 : ∀ (n_4 i_4 : Nat) (M4 : Mem), i_4 ≤ N → N - i_4 < n_4 → sm (fun b k => (b == 12 && (k == 4 || k == 5 || k == 6)) || (b == 1 && k == 7)) M M4 → J p l e (rmN 6) s m args below meth c 0 0 (QI (fun r _ => sp_loose n = r) D y ad M s args below) D y ad (va_A (PL y ad M) s.heap.size) 3 M4 44 [(2, .int (nI i_4)), (0, .ref (ad 0)), (1, .int (nI N))] [] := by
      intro n_4
      induction n_4 with
      | zero => intro i_4 M4 h1 h2; exact absurd h2 (by omega)
      | succ n_4 ih4 =>
        intro i_4 M4 h1i_4 h2i_4 hs4
        refine j_iload_n X 0 rfl rfl dX7_loose_44 ?_
        refine j_iload_n X 2 rfl rfl dX7_loose_45 ?_
        refine j_icmp_ge X 86 (by decide) dX7_loose_46 (fun c_5 => ?_) (fun c_5 => ?_)
        · have c_5 := (nI_leI (by omega) (by omega)).mp (show nI (N) ≤ nI i_4 from c_5)
          refine j_aload_n X 1 rfl rfl dX7_loose_86 ?_
          refine j_get X (by decide) (wE_7 _ rfl) rfl awF7 0 (by decide) aw_16 rfl (v := .ref (ad 1)) rfl dX7_loose_87 ?_
          refine j_getN X (by decide) (wE_6 _ rfl) rfl awF6 2 (by decide) (List.mem_of_getElem? (i := 23) rfl) rfl (v := .ref (ad 12)) rfl dX7_loose_90 ?_
          refine j_callVNI X (nn := 0) (As := []) (st := []) (ci := 0) (by decide) (wE_0 _ rfl) rfl aw_462 aw_463 (c_endedMany0_12 l D y ad M4 ((hs4 12 3 rfl).trans hz.1)) (List.mem_of_getElem? (i := 31) rfl) aw_464 aw_20 (by decide +kernel) ⟨by decide, by decide⟩ rfl (Nat.le_of_ble_eq_true rfl) ⟨by decide, by decide⟩ dX7_loose_93 ?_
          rintro r_ M1_ ⟨rfl, rfl⟩
          exact j_iret X hr hlocks dX7_loose_96 (by unfold sp_loose; rw [nI_ti hN (by decide)]; (repeat' split) <;> first | rfl | omega | (exfalso; omega))
        · have c_5 : i_4 < N := by
            rcases Nat.lt_or_ge i_4 (N) with g | g
            · exact g
            · exact absurd (show nI (N) ≤ nI i_4 from nI_le g (by omega)) c_5
          refine j_aload_n X 1 rfl rfl dX7_loose_49 ?_
          refine j_get X (by decide) (wE_7 _ rfl) rfl awF7 0 (by decide) aw_16 rfl (v := .ref (ad 1)) rfl dX7_loose_50 ?_
          refine j_getN X (by decide) (wE_6 _ rfl) rfl awF6 2 (by decide) (List.mem_of_getElem? (i := 23) rfl) rfl (v := .ref (ad 12)) rfl dX7_loose_53 ?_
          refine j_aload_n X 1 rfl rfl dX7_loose_56 ?_
          refine j_get X (by decide) (wE_7 _ rfl) rfl awF7 0 (by decide) aw_16 rfl (v := .ref (ad 1)) rfl dX7_loose_57 ?_
          refine j_callVNI X (nn := 0) (As := []) (st := [.ref (ad 12)]) (ci := 6) (by decide) (wE_6 _ rfl) rfl aw_516 aw_517 (c_draw l D y ad M4) (List.mem_of_getElem? (i := 32) rfl) aw_518 aw_15 (by decide +kernel) ⟨by decide, by decide⟩ rfl (Nat.le_of_ble_eq_true rfl) ⟨by decide, by decide⟩ dX7_loose_60 ?_
          rintro r_ M_7 s_6
          refine j_bipush X (v := 10) (by decide) dX7_loose_63 ?_
          refine j_irem X (by decide) dX7_loose_65 ?_
          refine j_putN X (up M_7 12 5 (r_ - r_ / 10 * 10)) up_o (by decide) (wE_0 _ rfl) rfl awF0 5 (by decide) (wP_0_5 _ _ rfl) tyX0 tyX0_ok nmX0 rfl (ty := .int) (by decide +kernel) rfl rfl (Nat.le_of_ble_eq_true rfl) (List.mem_of_getElem? (i := 17) rfl) rfl dX7_loose_66 ?_
          refine j_aload_n X 1 rfl rfl dX7_loose_69 ?_
          refine j_get X (by decide) (wE_7 _ rfl) rfl awF7 0 (by decide) aw_16 rfl (v := .ref (ad 1)) rfl dX7_loose_70 ?_
          refine j_getN X (by decide) (wE_6 _ rfl) rfl awF6 2 (by decide) (List.mem_of_getElem? (i := 23) rfl) rfl (v := .ref (ad 12)) rfl dX7_loose_73 ?_
          refine j_iconst X (v := 1) (by decide) dX7_loose_76 ?_
          refine j_callVNV X (nn := 1) (As := [.int 1]) (st := []) (ci := 0) (by decide) (wE_0 _ rfl) rfl aw_439 aw_440 (c_passDay0_12 l D y ad (up M_7 12 5 (r_ - r_ / 10 * 10)) ((show _ = M_7 12 3 from by simp [up]).trans ((s_6 12 3 rfl).trans ((hs4 12 3 rfl).trans hz.1))) 1) (List.mem_of_getElem? (i := 27) rfl) aw_441 aw_20 (by decide +kernel) ⟨by decide, by decide⟩ rfl (Nat.le_of_ble_eq_true rfl) ⟨by decide, by decide⟩ dX7_loose_77 ?_
          rintro M_9 s_8
          refine j_iinc X (v := (nI (i_4 + 1))) 0 [(2, .int (nI (i_4 + 1))), (0, .ref (ad 0)), (1, .int (nI N))] rfl (nI_1 i_4) (by decide) rfl dX7_loose_80 ?_
          refine j_goto X 44 (by decide) dX7_loose_83 ?_
          refine j_lv (lv1 := [(2, .int (nI (i_4 + 1))), (0, .ref (ad 0)), (1, .int (nI N))]) [0, 1, 2] rfl ?_
          exact ih4 (i_4 + 1) _ (by omega) (by omega) (sm_tr (sm_up (sm_tr hs4 (sm_w s_6 (by intro b k hb; simp only [Bool.or_eq_false_iff, Bool.and_eq_false_iff, beq_eq_false_iff_ne, ne_eq, decide_eq_false_iff_not] at hb ⊢; omega))) rfl) (sm_w s_8 (by intro b k hb; simp only [Bool.or_eq_false_iff, Bool.and_eq_false_iff, beq_eq_false_iff_ne, ne_eq, decide_eq_false_iff_not] at hb ⊢; omega)))
    refine j_lv (lv1 := [(2, .int (nI 0)), (0, .ref (ad 0)), (1, .int (nI N))]) [0, 1, 2] rfl ?_
    exact loop4 (N + 1) 0 _ (by omega) (by omega) sm_rf
  · refine j_if_ne X 17 (by decide) dX7_loose_7 (fun c_10 => False.elim (by revert c_10; decide)) (fun c_10 => ?_)
    refine j_aload_n X 0 rfl rfl dX7_loose_10 ?_
    refine j_ldc X (v := (-1000000001)) aw_108 dX7_loose_11 ?_
    refine j_callVI X (nn := 1) (As := [.int (-1000000001)]) (st := []) (ci := 7) (by decide) (wE_7 _ rfl) rfl aw_117 aw_118 (c_X7_refuse l D y ad M (-1000000001) 1 (by decide) (by decide)) aw_116 aw_119 aw_2 (by decide +kernel) ⟨by decide, by decide⟩ rfl (Nat.le_of_ble_eq_true rfl) ⟨by decide, by decide⟩ dX7_loose_13 ?_
    rintro r_ M1_ ⟨rfl, rfl⟩
    exact j_iret X hr hlocks dX7_loose_16 (by unfold sp_loose; (repeat' split) <;> first | rfl | omega | (exfalso; omega))
set_option maxRecDepth 100000 in
set_option maxHeartbeats 4000000 in
theorem c0_X7_ended (l : Launch) (D : va_G) (y : wY) (ad : Nat → Nat) (M : Mem) (hz : Z0 M) (n : Int32) : MI l D y ad yX7_ended (Cond.code yX7_ended cX7_ended 2 (some .int)) 6 M [.ref (ad 0), .int n] (fun r _ => sp_ended n = r) := by
  refine MI_of (by decide) (Nat.le_of_ble_eq_true rfl) ?_
  intro p e s m args below meth c X hr hlocks
  refine j_lv (lv1 := [(0, .ref (ad 0)), (1, .int n)]) [0, 1] rfl ?_
  refine j_iload_n X 1 rfl rfl dX7_ended_0 ?_
  refine j_iconst X (v := 0) (by decide) dX7_ended_1 ?_
  refine j_bipush X (v := 60) (by decide) dX7_ended_2 ?_
  refine j_callSI X (nn := 3) (As := [.int n, .int 0, .int 60]) (st := []) aw_110 (c_X7_isWithin l D y ad M n 0 60 0 60 (by decide) (by decide)) aw_109 aw_111 aw_2 (by decide +kernel) ⟨by decide, by decide⟩ rfl (Nat.le_of_ble_eq_true rfl) ⟨by decide, by decide⟩ dX7_ended_4 ?_
  rintro r_ M1_ (⟨rfl, rfl, h_1⟩ | ⟨rfl, rfl, h_1⟩)
  · refine j_if_ne X 17 (by decide) dX7_ended_7 (fun c_2 => ?_) (fun c_2 => False.elim (by revert c_2; decide))
    obtain ⟨N, hN, rfl⟩ := nI_oft (x := n) (n := 60) (by omega) (by omega) (by decide)
    rw [nI_ti hN (by decide)] at h_1
    refine j_aload_n X 0 rfl rfl dX7_ended_17 ?_
    refine j_callVV X (nn := 0) (As := []) (st := []) (ci := 7) (by decide) (wE_7 _ rfl) rfl aw_534 aw_535 (c_think0 l D y ad M hz.1) aw_533 aw_536 aw_2 (by decide +kernel) ⟨by decide, by decide⟩ rfl (Nat.le_of_ble_eq_true rfl) ⟨by decide, by decide⟩ dX7_ended_18 ?_
    rintro M_4 ⟨s_3, s_3_3, s_3_7, s_3_8⟩
    refine j_aload_n X 0 rfl rfl dX7_ended_21 ?_
    refine j_iload_n X 1 rfl rfl dX7_ended_22 ?_
    refine j_callVV X (nn := 1) (As := [.int (nI N)]) (st := []) (ci := 7) (by decide) (wE_7 _ rfl) rfl aw_545 aw_546 (c_thinkDays0 l D y ad M_4 N (by omega) (s_3_3.trans hz.1)) aw_544 aw_547 aw_2 (by decide +kernel) ⟨by decide, by decide⟩ rfl (Nat.le_of_ble_eq_true rfl) ⟨by decide, by decide⟩ dX7_ended_23 ?_
    rintro M_6 s_5
    refine j_aload_n X 0 rfl rfl dX7_ended_26 ?_
    refine j_get X (by decide) (wE_7 _ rfl) rfl awF7 2 (by decide) aw_21 rfl (v := .ref (ad 49)) rfl dX7_ended_27 ?_
    refine j_callVNI X (nn := 0) (As := []) (st := []) (ci := 0) (by decide) (wE_0 _ rfl) rfl aw_466 aw_467 (c_setEnded0_49 l D y ad M_6 ((s_5 49 3 rfl).trans (s_3_3.trans hz.1))) (List.mem_of_getElem? (i := 35) rfl) aw_468 aw_20 (by decide +kernel) ⟨by decide, by decide⟩ rfl (Nat.le_of_ble_eq_true rfl) ⟨by decide, by decide⟩ dX7_ended_30 ?_
    rintro r_ M1_ ⟨rfl, rfl⟩
    exact j_iret X hr hlocks dX7_ended_33 (by unfold sp_ended; rw [nI_ti hN (by decide)]; (repeat' split) <;> first | rfl | omega | (exfalso; omega))
  · refine j_if_ne X 17 (by decide) dX7_ended_7 (fun c_7 => False.elim (by revert c_7; decide)) (fun c_7 => ?_)
    refine j_aload_n X 0 rfl rfl dX7_ended_10 ?_
    refine j_ldc X (v := (-1000000001)) aw_108 dX7_ended_11 ?_
    refine j_callVI X (nn := 1) (As := [.int (-1000000001)]) (st := []) (ci := 7) (by decide) (wE_7 _ rfl) rfl aw_117 aw_118 (c_X7_refuse l D y ad M (-1000000001) 1 (by decide) (by decide)) aw_116 aw_119 aw_2 (by decide +kernel) ⟨by decide, by decide⟩ rfl (Nat.le_of_ble_eq_true rfl) ⟨by decide, by decide⟩ dX7_ended_13 ?_
    rintro r_ M1_ ⟨rfl, rfl⟩
    exact j_iret X hr hlocks dX7_ended_16 (by unfold sp_ended; (repeat' split) <;> first | rfl | omega | (exfalso; omega))
set_option maxRecDepth 100000 in
set_option maxHeartbeats 4000000 in
theorem c0_X7_fee (l : Launch) (D : va_G) (y : wY) (ad : Nat → Nat) (M : Mem) (hz : Z0 M) (n : Int32) : MI l D y ad yX7_fee (Cond.code yX7_fee cX7_fee 2 (some .int)) 6 M [.ref (ad 0), .int n] (fun r _ => sp_fee n = r) := by
  refine MI_of (by decide) (Nat.le_of_ble_eq_true rfl) ?_
  intro p e s m args below meth c X hr hlocks
  refine j_lv (lv1 := [(0, .ref (ad 0)), (1, .int n)]) [0, 1] rfl ?_
  refine j_iload_n X 1 rfl rfl dX7_fee_0 ?_
  refine j_iconst X (v := 0) (by decide) dX7_fee_1 ?_
  refine j_bipush X (v := 60) (by decide) dX7_fee_2 ?_
  refine j_callSI X (nn := 3) (As := [.int n, .int 0, .int 60]) (st := []) aw_110 (c_X7_isWithin l D y ad M n 0 60 0 60 (by decide) (by decide)) aw_109 aw_111 aw_2 (by decide +kernel) ⟨by decide, by decide⟩ rfl (Nat.le_of_ble_eq_true rfl) ⟨by decide, by decide⟩ dX7_fee_4 ?_
  rintro r_ M1_ (⟨rfl, rfl, h_1⟩ | ⟨rfl, rfl, h_1⟩)
  · refine j_if_ne X 17 (by decide) dX7_fee_7 (fun c_2 => ?_) (fun c_2 => False.elim (by revert c_2; decide))
    obtain ⟨N, hN, rfl⟩ := nI_oft (x := n) (n := 60) (by omega) (by omega) (by decide)
    rw [nI_ti hN (by decide)] at h_1
    refine j_aload_n X 0 rfl rfl dX7_fee_17 ?_
    refine j_callVV X (nn := 0) (As := []) (st := []) (ci := 7) (by decide) (wE_7 _ rfl) rfl aw_534 aw_535 (c_think0 l D y ad M hz.1) aw_533 aw_536 aw_2 (by decide +kernel) ⟨by decide, by decide⟩ rfl (Nat.le_of_ble_eq_true rfl) ⟨by decide, by decide⟩ dX7_fee_18 ?_
    rintro M_4 ⟨s_3, s_3_3, s_3_7, s_3_8⟩
    refine j_aload_n X 0 rfl rfl dX7_fee_21 ?_
    refine j_iload_n X 1 rfl rfl dX7_fee_22 ?_
    refine j_callVV X (nn := 1) (As := [.int (nI N)]) (st := []) (ci := 7) (by decide) (wE_7 _ rfl) rfl aw_545 aw_546 (c_thinkDays0 l D y ad M_4 N (by omega) (s_3_3.trans hz.1)) aw_544 aw_547 aw_2 (by decide +kernel) ⟨by decide, by decide⟩ rfl (Nat.le_of_ble_eq_true rfl) ⟨by decide, by decide⟩ dX7_fee_23 ?_
    rintro M_6 s_5
    refine j_aload_n X 0 rfl rfl dX7_fee_26 ?_
    refine j_get X (by decide) (wE_7 _ rfl) rfl awF7 2 (by decide) aw_21 rfl (v := .ref (ad 49)) rfl dX7_fee_27 ?_
    refine j_getN X (by decide) (wE_0 _ rfl) rfl awF0 8 (by decide) (List.mem_of_getElem? (i := 20) rfl) rfl (v := .int (M_6 49 8)) rfl dX7_fee_30 ?_
    refine j_eqi (v := 0) ((s_5 49 8 rfl).trans (s_3_8.trans hz.2.2.2.2.2.1)) ?_
    refine j_aload_n X 0 rfl rfl dX7_fee_33 ?_
    refine j_get X (by decide) (wE_7 _ rfl) rfl awF7 0 (by decide) aw_16 rfl (v := .ref (ad 1)) rfl dX7_fee_34 ?_
    refine j_getN X (by decide) (wE_6 _ rfl) rfl awF6 2 (by decide) (List.mem_of_getElem? (i := 23) rfl) rfl (v := .ref (ad 12)) rfl dX7_fee_37 ?_
    refine j_getN X (by decide) (wE_0 _ rfl) rfl awF0 8 (by decide) (List.mem_of_getElem? (i := 20) rfl) rfl (v := .int (M_6 12 8)) rfl dX7_fee_40 ?_
    refine j_eqi (v := 0) ((s_5 12 8 rfl).trans ((s_3 12 8 rfl).trans hz.2.2.2.2.2.1)) ?_
    refine j_isub X dX7_fee_43 ?_
    refine j_eqi (v := 0) (by decide) ?_
    exact j_iret X hr hlocks dX7_fee_44 (by unfold sp_fee; rw [nI_ti hN (by decide)]; (repeat' split) <;> first | rfl | omega | (exfalso; omega))
  · refine j_if_ne X 17 (by decide) dX7_fee_7 (fun c_7 => False.elim (by revert c_7; decide)) (fun c_7 => ?_)
    refine j_aload_n X 0 rfl rfl dX7_fee_10 ?_
    refine j_ldc X (v := (-1000000001)) aw_108 dX7_fee_11 ?_
    refine j_callVI X (nn := 1) (As := [.int (-1000000001)]) (st := []) (ci := 7) (by decide) (wE_7 _ rfl) rfl aw_117 aw_118 (c_X7_refuse l D y ad M (-1000000001) 1 (by decide) (by decide)) aw_116 aw_119 aw_2 (by decide +kernel) ⟨by decide, by decide⟩ rfl (Nat.le_of_ble_eq_true rfl) ⟨by decide, by decide⟩ dX7_fee_13 ?_
    rintro r_ M1_ ⟨rfl, rfl⟩
    exact j_iret X hr hlocks dX7_fee_16 (by unfold sp_fee; (repeat' split) <;> first | rfl | omega | (exfalso; omega))
set_option maxRecDepth 100000 in
set_option maxHeartbeats 4000000 in
theorem c0_X7_free (l : Launch) (D : va_G) (y : wY) (ad : Nat → Nat) (M : Mem) (hz : Z0 M) : MI l D y ad yX7_free (Cond.code yX7_free cX7_free 1 (some .int)) 6 M [.ref (ad 0)] (fun r _ => sp_free = r) := by
  refine MI_of (by decide) (Nat.le_of_ble_eq_true rfl) ?_
  intro p e s m args below meth c X hr hlocks
  refine j_lv (lv1 := [(0, .ref (ad 0))]) [0] rfl ?_
  refine j_aload_n X 0 rfl rfl dX7_free_0 ?_
  refine j_get X (by decide) (wE_7 _ rfl) rfl awF7 0 (by decide) aw_16 rfl (v := .ref (ad 1)) rfl dX7_free_1 ?_
  refine j_getN X (by decide) (wE_6 _ rfl) rfl awF6 2 (by decide) (List.mem_of_getElem? (i := 23) rfl) rfl (v := .ref (ad 12)) rfl dX7_free_4 ?_
  refine j_callVNI X (nn := 0) (As := []) (st := []) (ci := 0) (by decide) (wE_0 _ rfl) rfl aw_709 aw_710 (c_setFree0_12 l D y ad M hz.1) (List.mem_of_getElem? (i := 42) rfl) aw_711 aw_20 (by decide +kernel) ⟨by decide, by decide⟩ rfl (Nat.le_of_ble_eq_true rfl) ⟨by decide, by decide⟩ dX7_free_7 ?_
  rintro r_ M1_ ⟨rfl, rfl⟩
  exact j_iret X hr hlocks dX7_free_10 (by unfold sp_free; (repeat' split) <;> first | rfl | omega | (exfalso; omega))
set_option maxRecDepth 100000 in
set_option maxHeartbeats 4000000 in
theorem c0_X7_off (l : Launch) (D : va_G) (y : wY) (ad : Nat → Nat) (M : Mem) (hz : Z0 M) (n : Int32) : MI l D y ad yX7_off (Cond.code yX7_off cX7_off 3 (some .int)) 6 M [.ref (ad 0), .int n] (fun r _ => sp_off n = r) := by
  refine MI_of (by decide) (Nat.le_of_ble_eq_true rfl) ?_
  intro p e s m args below meth c X hr hlocks
  refine j_lv (lv1 := [(0, .ref (ad 0)), (1, .int n)]) [0, 1] rfl ?_
  refine j_iload_n X 1 rfl rfl dX7_off_0 ?_
  refine j_iconst X (v := 0) (by decide) dX7_off_1 ?_
  refine j_bipush X (v := 60) (by decide) dX7_off_2 ?_
  refine j_callSI X (nn := 3) (As := [.int n, .int 0, .int 60]) (st := []) aw_110 (c_X7_isWithin l D y ad M n 0 60 0 60 (by decide) (by decide)) aw_109 aw_111 aw_2 (by decide +kernel) ⟨by decide, by decide⟩ rfl (Nat.le_of_ble_eq_true rfl) ⟨by decide, by decide⟩ dX7_off_4 ?_
  rintro r_ M1_ (⟨rfl, rfl, h_1⟩ | ⟨rfl, rfl, h_1⟩)
  · refine j_if_ne X 17 (by decide) dX7_off_7 (fun c_2 => ?_) (fun c_2 => False.elim (by revert c_2; decide))
    obtain ⟨N, hN, rfl⟩ := nI_oft (x := n) (n := 60) (by omega) (by omega) (by decide)
    rw [nI_ti hN (by decide)] at h_1
    refine j_aload_n X 0 rfl rfl dX7_off_17 ?_
    refine j_callVV X (nn := 0) (As := []) (st := []) (ci := 7) (by decide) (wE_7 _ rfl) rfl aw_534 aw_535 (c_think0 l D y ad M hz.1) aw_533 aw_536 aw_2 (by decide +kernel) ⟨by decide, by decide⟩ rfl (Nat.le_of_ble_eq_true rfl) ⟨by decide, by decide⟩ dX7_off_18 ?_
    rintro M_4 ⟨s_3, s_3_3, s_3_7, s_3_8⟩
    refine j_aload_n X 0 rfl rfl dX7_off_21 ?_
    refine j_iload_n X 1 rfl rfl dX7_off_22 ?_
    refine j_callVV X (nn := 1) (As := [.int (nI N)]) (st := []) (ci := 7) (by decide) (wE_7 _ rfl) rfl aw_626 aw_627 (c_thinkDaysWithHarm0 l D y ad M_4 N (by omega) (s_3_3.trans hz.1)) aw_625 aw_628 aw_2 (by decide +kernel) ⟨by decide, by decide⟩ rfl (Nat.le_of_ble_eq_true rfl) ⟨by decide, by decide⟩ dX7_off_23 ?_
    rintro M_6 s_5
    refine j_aload_n X 0 rfl rfl dX7_off_26 ?_
    refine j_get X (by decide) (wE_7 _ rfl) rfl awF7 2 (by decide) aw_21 rfl (v := .ref (ad 49)) rfl dX7_off_27 ?_
    refine j_getN X (by decide) (wE_0 _ rfl) rfl awF0 7 (by decide) (List.mem_of_getElem? (i := 19) rfl) rfl (v := .int (M_6 49 7)) rfl dX7_off_30 ?_
    refine j_eqi (v := 0) ((s_5 49 7 rfl).trans (s_3_7.trans hz.2.2.2.2.1)) ?_
    refine j_istore_n X [(2, .int 0), (0, .ref (ad 0)), (1, .int (nI N))] rfl (by decide) rfl dX7_off_33 ?_
    refine j_aload_n X 1 rfl rfl dX7_off_34 ?_
    refine j_callVV X (nn := 0) (As := []) (st := []) (ci := 7) (by decide) (wE_7 _ rfl) rfl aw_534 aw_535 (c_think0 l D y ad M_6 ((s_5 12 3 rfl).trans ((s_3 12 3 rfl).trans hz.1))) aw_533 aw_536 aw_2 (by decide +kernel) ⟨by decide, by decide⟩ rfl (Nat.le_of_ble_eq_true rfl) ⟨by decide, by decide⟩ dX7_off_35 ?_
    rintro M_8 ⟨s_7, s_7_3, s_7_7, s_7_8⟩
    rcases N with _ | N
    · refine j_iload_n X 2 rfl rfl dX7_off_38 ?_
      refine j_if_le X 57 (by decide) dX7_off_39 (fun c_9 => ?_) (fun c_9 => False.elim (by revert c_9; decide))
      refine j_aload_n X 1 rfl rfl dX7_off_57 ?_
      refine j_get X (by decide) (wE_7 _ rfl) rfl awF7 2 (by decide) aw_21 rfl (v := .ref (ad 49)) rfl dX7_off_58 ?_
      refine j_getN X (by decide) (wE_0 _ rfl) rfl awF0 7 (by decide) (List.mem_of_getElem? (i := 19) rfl) rfl (v := .int (M_8 49 7)) rfl dX7_off_61 ?_
      refine j_eqi (v := 0) (s_7_7.trans ((s_5 12 7 rfl).trans ((s_3 12 7 rfl).trans hz.2.2.2.2.1))) ?_
      refine j_iload_n X 0 rfl rfl dX7_off_64 ?_
      refine j_isub X dX7_off_65 ?_
      refine j_eqi (v := 0) (by decide) ?_
      exact j_iret X hr hlocks dX7_off_66 (by unfold sp_off; rw [nI_ti hN (by decide)]; (repeat' split) <;> first | rfl | omega | (exfalso; omega))
    · refine j_iload_n X 2 rfl rfl dX7_off_38 ?_
      refine j_if_le X 57 (by decide) dX7_off_39 (fun c_10 => False.elim (nI_nle (by omega) (by omega) c_10)) (fun c_10 => ?_)
      refine j_aload_n X 1 rfl rfl dX7_off_42 ?_
      refine j_get X (by decide) (wE_7 _ rfl) rfl awF7 2 (by decide) aw_21 rfl (v := .ref (ad 49)) rfl dX7_off_43 ?_
      refine j_iconst X (v := 1) (by decide) dX7_off_46 ?_
      refine j_callVNV X (nn := 1) (As := [.int 1]) (st := []) (ci := 0) (by decide) (wE_0 _ rfl) rfl aw_450 aw_451 (c_restDay0_49 l D y ad M_8 (s_7_3.trans ((s_5 12 3 rfl).trans ((s_3 12 3 rfl).trans hz.1))) 1) (List.mem_of_getElem? (i := 40) rfl) aw_452 aw_20 (by decide +kernel) ⟨by decide, by decide⟩ rfl (Nat.le_of_ble_eq_true rfl) ⟨by decide, by decide⟩ dX7_off_47 ?_
      rintro M_12 s_11
      refine j_aload_n X 1 rfl rfl dX7_off_50 ?_
      refine j_iload_n X 2 rfl rfl dX7_off_51 ?_
      refine j_iconst X (v := 1) (by decide) dX7_off_52 ?_
      refine j_isub X dX7_off_53 ?_
      refine j_eqi (v := nI N) (nI_pred N) ?_
      refine j_callVV X (nn := 1) (As := [.int (nI N)]) (st := []) (ci := 7) (by decide) (wE_7 _ rfl) rfl aw_626 aw_627 (c_thinkDaysWithHarm0 l D y ad M_12 N (by omega) ((s_11 49 3 rfl).trans (s_7_3.trans ((s_5 12 3 rfl).trans ((s_3 12 3 rfl).trans hz.1))))) aw_625 aw_628 aw_2 (by decide +kernel) ⟨by decide, by decide⟩ rfl (Nat.le_of_ble_eq_true rfl) ⟨by decide, by decide⟩ dX7_off_54 ?_
      rintro M_14 s_13
      refine j_aload_n X 1 rfl rfl dX7_off_57 ?_
      refine j_get X (by decide) (wE_7 _ rfl) rfl awF7 2 (by decide) aw_21 rfl (v := .ref (ad 49)) rfl dX7_off_58 ?_
      refine j_getN X (by decide) (wE_0 _ rfl) rfl awF0 7 (by decide) (List.mem_of_getElem? (i := 19) rfl) rfl (v := .int (M_14 49 7)) rfl dX7_off_61 ?_
      refine j_eqi (v := 0) ((s_13 49 7 rfl).trans ((s_11 49 7 rfl).trans (s_7_7.trans ((s_5 12 7 rfl).trans ((s_3 12 7 rfl).trans hz.2.2.2.2.1))))) ?_
      refine j_iload_n X 0 rfl rfl dX7_off_64 ?_
      refine j_isub X dX7_off_65 ?_
      refine j_eqi (v := 0) (by decide) ?_
      exact j_iret X hr hlocks dX7_off_66 (by unfold sp_off; rw [nI_ti hN (by decide)]; (repeat' split) <;> first | rfl | omega | (exfalso; omega))
  · refine j_if_ne X 17 (by decide) dX7_off_7 (fun c_15 => False.elim (by revert c_15; decide)) (fun c_15 => ?_)
    refine j_aload_n X 0 rfl rfl dX7_off_10 ?_
    refine j_ldc X (v := (-1000000001)) aw_108 dX7_off_11 ?_
    refine j_callVI X (nn := 1) (As := [.int (-1000000001)]) (st := []) (ci := 7) (by decide) (wE_7 _ rfl) rfl aw_117 aw_118 (c_X7_refuse l D y ad M (-1000000001) 1 (by decide) (by decide)) aw_116 aw_119 aw_2 (by decide +kernel) ⟨by decide, by decide⟩ rfl (Nat.le_of_ble_eq_true rfl) ⟨by decide, by decide⟩ dX7_off_13 ?_
    rintro r_ M1_ ⟨rfl, rfl⟩
    exact j_iret X hr hlocks dX7_off_16 (by unfold sp_off; (repeat' split) <;> first | rfl | omega | (exfalso; omega))
set_option maxRecDepth 100000 in
set_option maxHeartbeats 4000000 in
theorem c0_X7_start (l : Launch) (D : va_G) (y : wY) (ad : Nat → Nat) (M : Mem) (hz : Z0 M) (n what : Int32) : MI l D y ad yX7_start (Cond.code yX7_start cX7_start 6 (some .int)) 6 M [.ref (ad 0), .int n, .int what] (fun r _ => sp_start n what = r) := by
  refine MI_of (by decide) (Nat.le_of_ble_eq_true rfl) ?_
  intro p e s m args below meth c X hr hlocks
  refine j_lv (lv1 := [(0, .ref (ad 0)), (1, .int n), (2, .int what)]) [0, 1, 2] rfl ?_
  refine j_iload_n X 1 rfl rfl dX7_start_0 ?_
  refine j_iconst X (v := 0) (by decide) dX7_start_1 ?_
  refine j_bipush X (v := 60) (by decide) dX7_start_2 ?_
  refine j_callSI X (nn := 3) (As := [.int n, .int 0, .int 60]) (st := []) aw_110 (c_X7_isWithin l D y ad M n 0 60 0 60 (by decide) (by decide)) aw_109 aw_111 aw_2 (by decide +kernel) ⟨by decide, by decide⟩ rfl (Nat.le_of_ble_eq_true rfl) ⟨by decide, by decide⟩ dX7_start_4 ?_
  rintro r_ M1_ (⟨rfl, rfl, h_1⟩ | ⟨rfl, rfl, h_1⟩)
  · refine j_if_eq X 19 (by decide) dX7_start_7 (fun c_2 => False.elim (by revert c_2; decide)) (fun c_2 => ?_)
    refine j_iload_n X 2 rfl rfl dX7_start_10 ?_
    refine j_iconst X (v := 0) (by decide) dX7_start_11 ?_
    refine j_iconst X (v := 1) (by decide) dX7_start_12 ?_
    refine j_callSI X (nn := 3) (As := [.int what, .int 0, .int 1]) (st := []) aw_110 (c_X7_isWithin l D y ad M what 0 1 0 1 (by decide) (by decide)) aw_109 aw_111 aw_2 (by decide +kernel) ⟨by decide, by decide⟩ rfl (Nat.le_of_ble_eq_true rfl) ⟨by decide, by decide⟩ dX7_start_13 ?_
    rintro r_ M1_ (⟨rfl, rfl, h_3⟩ | ⟨rfl, rfl, h_3⟩)
    · refine j_if_ne X 26 (by decide) dX7_start_16 (fun c_4 => ?_) (fun c_4 => False.elim (by revert c_4; decide))
      obtain ⟨N, hN, rfl⟩ := nI_oft (x := n) (n := 60) (by omega) (by omega) (by decide)
      rw [nI_ti hN (by decide)] at h_1
      refine j_iconst X (v := 0) (by decide) dX7_start_26 ?_
      refine j_istore_n X [(3, .int 0), (0, .ref (ad 0)), (1, .int (nI N)), (2, .int what)] rfl (by decide) rfl dX7_start_27 ?_
      refine j_iconst X (v := (-1)) (by decide) dX7_start_28 ?_
      refine j_istore X [(4, .int (-1)), (3, .int 0), (0, .ref (ad 0)), (1, .int (nI N)), (2, .int what)] (by decide) rfl dX7_start_29 ?_
      refine j_iconst X (v := 0) (by decide) dX7_start_31 ?_
      refine j_istore X [(5, .int 0), (4, .int (-1)), (3, .int 0), (0, .ref (ad 0)), (1, .int (nI N)), (2, .int what)] (by decide) rfl dX7_start_32 ?_
      refine j_iload X 0 rfl dX7_start_34 ?_
      refine j_bipush X (v := 10) (by decide) dX7_start_36 ?_
      refine j_icmp_ge X 89 (by decide) dX7_start_38 (fun c_5 => False.elim (by revert c_5; decide)) (fun c_5 => ?_)
      refine j_aload_n X 3 rfl rfl dX7_start_41 ?_
      refine j_callVV X (nn := 0) (As := []) (st := []) (ci := 7) (by decide) (wE_7 _ rfl) rfl aw_534 aw_535 (c_think0 l D y ad M hz.1) aw_533 aw_536 aw_2 (by decide +kernel) ⟨by decide, by decide⟩ rfl (Nat.le_of_ble_eq_true rfl) ⟨by decide, by decide⟩ dX7_start_42 ?_
      rintro M_7 ⟨s_6, s_6_3, s_6_7, s_6_8⟩
      refine j_aload_n X 3 rfl rfl dX7_start_45 ?_
      refine j_get X (by decide) (wE_7 _ rfl) rfl awF7 2 (by decide) aw_21 rfl (v := .ref (ad 49)) rfl dX7_start_46 ?_
      refine j_iload X 0 rfl dX7_start_49 ?_
      refine j_putN X (up M_7 49 4 0) up_o (by decide) (wE_0 _ rfl) rfl awF0 4 (by decide) (wP_0_4 _ _ rfl) tyX0 tyX0_ok nmX0 rfl (ty := .int) (by decide +kernel) rfl rfl (Nat.le_of_ble_eq_true rfl) (List.mem_of_getElem? (i := 16) rfl) rfl dX7_start_51 ?_
      refine j_aload_n X 3 rfl rfl dX7_start_54 ?_
      refine j_iload_n X 4 rfl rfl dX7_start_55 ?_
      refine j_callVV X (nn := 1) (As := [.int (nI N)]) (st := []) (ci := 7) (by decide) (wE_7 _ rfl) rfl aw_545 aw_546 (c_thinkDays0 l D y ad (up M_7 49 4 0) N (by omega) ((show _ = M_7 49 3 from by simp [up]).trans (s_6_3.trans hz.1))) aw_544 aw_547 aw_2 (by decide +kernel) ⟨by decide, by decide⟩ rfl (Nat.le_of_ble_eq_true rfl) ⟨by decide, by decide⟩ dX7_start_56 ?_
      rintro M_9 s_8
      refine j_aload_n X 3 rfl rfl dX7_start_59 ?_
      refine j_get X (by decide) (wE_7 _ rfl) rfl awF7 2 (by decide) aw_21 rfl (v := .ref (ad 49)) rfl dX7_start_60 ?_
      refine j_callVNI X (nn := 0) (As := []) (st := []) (ci := 0) (by decide) (wE_0 _ rfl) rfl aw_462 aw_463 (c_endedMany0_49 l D y ad M_9 ((s_8 49 3 rfl).trans ((show _ = M_7 49 3 from by simp [up]).trans (s_6_3.trans hz.1)))) (List.mem_of_getElem? (i := 31) rfl) aw_464 aw_20 (by decide +kernel) ⟨by decide, by decide⟩ rfl (Nat.le_of_ble_eq_true rfl) ⟨by decide, by decide⟩ dX7_start_63 ?_
      rintro r_ M1_ ⟨rfl, rfl⟩
      refine j_iload X 1 rfl dX7_start_66 ?_
      refine j_icmp_le X 83 (by decide) dX7_start_68 (fun c_10 => False.elim (by revert c_10; decide)) (fun c_10 => ?_)
      refine j_iload X 0 rfl dX7_start_71 ?_
      refine j_istore_n X [(3, .int 0), (5, .int 0), (4, .int (-1)), (0, .ref (ad 0)), (1, .int (nI N)), (2, .int what)] rfl (by decide) rfl dX7_start_73 ?_
      refine j_aload_n X 3 rfl rfl dX7_start_74 ?_
      refine j_get X (by decide) (wE_7 _ rfl) rfl awF7 2 (by decide) aw_21 rfl (v := .ref (ad 49)) rfl dX7_start_75 ?_
      refine j_callVNI X (nn := 0) (As := []) (st := []) (ci := 0) (by decide) (wE_0 _ rfl) rfl aw_462 aw_463 (c_endedMany0_49 l D y ad M_9 ((s_8 49 3 rfl).trans ((show _ = M_7 49 3 from by simp [up]).trans (s_6_3.trans hz.1)))) (List.mem_of_getElem? (i := 31) rfl) aw_464 aw_20 (by decide +kernel) ⟨by decide, by decide⟩ rfl (Nat.le_of_ble_eq_true rfl) ⟨by decide, by decide⟩ dX7_start_78 ?_
      rintro r_ M1_ ⟨rfl, rfl⟩
      refine j_istore X [(4, .int 0), (3, .int 0), (5, .int 0), (0, .ref (ad 0)), (1, .int (nI N)), (2, .int what)] (by decide) rfl dX7_start_81 ?_
      refine j_iinc X (v := 0 + 1) 2 [(5, .int (0 + 1)), (4, .int 0), (3, .int 0), (0, .ref (ad 0)), (1, .int (nI N)), (2, .int what)] rfl rfl (by decide) rfl dX7_start_83 ?_
      refine j_goto X 34 (by decide) dX7_start_86 ?_
      have loop11 : ∀ (n_11 i_11 : Nat) (M11 : Mem), i_11 ≤ 10 → 10 - i_11 < n_11 → sm (fun b _ => b == 49) M_9 M11 → J p l e (rmN 6) s m args below meth c 0 0 (QI (fun r _ => sp_start n what = r) D y ad M s args below) D y ad (va_A (PL y ad M) s.heap.size) 6 M11 34 [(5, .int (nI i_11)), (0, .ref (ad 0)), (1, .int (nI N)), (2, .int what), (3, .int 0), (4, .int 0)] [] := by
        intro n_11
        induction n_11 with
        | zero => intro i_11 M11 h1 h2; exact absurd h2 (by omega)
        | succ n_11 ih11 =>
          intro i_11 M11 h1i_11 h2i_11 hs11
          refine j_iload X 0 rfl dX7_start_34 ?_
          refine j_bipush X (v := 10) (by decide) dX7_start_36 ?_
          refine j_icmp_ge X 89 (by decide) dX7_start_38 (fun c_12 => ?_) (fun c_12 => ?_)
          · have c_12 := (nI_leI (by omega) (by omega)).mp (show nI (10) ≤ nI i_11 from c_12)
            refine j_iload_n X 3 rfl rfl dX7_start_89 ?_
            refine j_if_ne X 97 (by decide) dX7_start_90 (fun c_13 => ?_) (fun c_13 => ?_)
            · have qc_13 := ti_ne (n := 0) (by decide) c_13
              refine j_iload X 5 rfl dX7_start_97 ?_
              exact j_iret X hr hlocks dX7_start_99 (by unfold sp_start; rw [nI_ti hN (by decide)]; (repeat' split) <;> first | rfl | omega | (exfalso; omega))
            · have qc_13 := ti_eq (n := 0) (by decide) c_13
              refine j_iload_n X 4 rfl rfl dX7_start_93 ?_
              refine j_goto X 99 (by decide) dX7_start_94 ?_
              exact j_iret X hr hlocks dX7_start_99 (by unfold sp_start; rw [nI_ti hN (by decide)]; (repeat' split) <;> first | rfl | omega | (exfalso; omega))
          · have c_12 : i_11 < 10 := by
              rcases Nat.lt_or_ge i_11 (10) with g | g
              · exact g
              · exact absurd (show nI (10) ≤ nI i_11 from nI_le g (by omega)) c_12
            refine j_aload_n X 1 rfl rfl dX7_start_41 ?_
            refine j_callVV X (nn := 0) (As := []) (st := []) (ci := 7) (by decide) (wE_7 _ rfl) rfl aw_534 aw_535 (c_think0 l D y ad M11 ((hs11 12 3 rfl).trans ((s_8 12 3 rfl).trans ((show _ = M_7 12 3 from by simp [up]).trans ((s_6 12 3 rfl).trans hz.1))))) aw_533 aw_536 aw_2 (by decide +kernel) ⟨by decide, by decide⟩ rfl (Nat.le_of_ble_eq_true rfl) ⟨by decide, by decide⟩ dX7_start_42 ?_
            rintro M_15 ⟨s_14, s_14_3, s_14_7, s_14_8⟩
            refine j_aload_n X 1 rfl rfl dX7_start_45 ?_
            refine j_get X (by decide) (wE_7 _ rfl) rfl awF7 2 (by decide) aw_21 rfl (v := .ref (ad 49)) rfl dX7_start_46 ?_
            refine j_iload X 0 rfl dX7_start_49 ?_
            refine j_putN X (up M_15 49 4 (nI i_11)) up_o (by decide) (wE_0 _ rfl) rfl awF0 4 (by decide) (wP_0_4 _ _ rfl) tyX0 tyX0_ok nmX0 rfl (ty := .int) (by decide +kernel) rfl rfl (Nat.le_of_ble_eq_true rfl) (List.mem_of_getElem? (i := 16) rfl) rfl dX7_start_51 ?_
            refine j_aload_n X 1 rfl rfl dX7_start_54 ?_
            refine j_iload_n X 2 rfl rfl dX7_start_55 ?_
            refine j_callVV X (nn := 1) (As := [.int (nI N)]) (st := []) (ci := 7) (by decide) (wE_7 _ rfl) rfl aw_545 aw_546 (c_thinkDays0 l D y ad (up M_15 49 4 (nI i_11)) N (by omega) ((show _ = M_15 49 3 from by simp [up]).trans (s_14_3.trans ((hs11 12 3 rfl).trans ((s_8 12 3 rfl).trans ((show _ = M_7 12 3 from by simp [up]).trans ((s_6 12 3 rfl).trans hz.1))))))) aw_544 aw_547 aw_2 (by decide +kernel) ⟨by decide, by decide⟩ rfl (Nat.le_of_ble_eq_true rfl) ⟨by decide, by decide⟩ dX7_start_56 ?_
            rintro M_17 s_16
            refine j_aload_n X 1 rfl rfl dX7_start_59 ?_
            refine j_get X (by decide) (wE_7 _ rfl) rfl awF7 2 (by decide) aw_21 rfl (v := .ref (ad 49)) rfl dX7_start_60 ?_
            refine j_callVNI X (nn := 0) (As := []) (st := []) (ci := 0) (by decide) (wE_0 _ rfl) rfl aw_462 aw_463 (c_endedMany0_49 l D y ad M_17 ((s_16 49 3 rfl).trans ((show _ = M_15 49 3 from by simp [up]).trans (s_14_3.trans ((hs11 12 3 rfl).trans ((s_8 12 3 rfl).trans ((show _ = M_7 12 3 from by simp [up]).trans ((s_6 12 3 rfl).trans hz.1)))))))) (List.mem_of_getElem? (i := 31) rfl) aw_464 aw_20 (by decide +kernel) ⟨by decide, by decide⟩ rfl (Nat.le_of_ble_eq_true rfl) ⟨by decide, by decide⟩ dX7_start_63 ?_
            rintro r_ M1_ ⟨rfl, rfl⟩
            refine j_iload X 5 rfl dX7_start_66 ?_
            refine j_icmp_le X 83 (by decide) dX7_start_68 (fun c_18 => ?_) (fun c_18 => False.elim (by revert c_18; decide))
            refine j_iinc X (v := (nI (i_11 + 1))) 0 [(5, .int (nI (i_11 + 1))), (0, .ref (ad 0)), (1, .int (nI N)), (2, .int what), (3, .int 0), (4, .int 0)] rfl (nI_1 i_11) (by decide) rfl dX7_start_83 ?_
            refine j_goto X 34 (by decide) dX7_start_86 ?_
            refine j_lv (lv1 := [(5, .int (nI (i_11 + 1))), (0, .ref (ad 0)), (1, .int (nI N)), (2, .int what), (3, .int 0), (4, .int 0)]) [0, 1, 2, 3, 4, 5] rfl ?_
            exact ih11 (i_11 + 1) _ (by omega) (by omega) (sm_tr (sm_up (sm_tr hs11 (sm_w s_14 (by intro b k hb; simp only [Bool.or_eq_false_iff, Bool.and_eq_false_iff, beq_eq_false_iff_ne, ne_eq, decide_eq_false_iff_not] at hb ⊢; omega))) rfl) (sm_w s_16 (by intro b k hb; simp only [Bool.or_eq_false_iff, Bool.and_eq_false_iff, beq_eq_false_iff_ne, ne_eq, decide_eq_false_iff_not] at hb ⊢; omega)))
      refine j_lv (lv1 := [(5, .int (nI 1)), (0, .ref (ad 0)), (1, .int (nI N)), (2, .int what), (3, .int 0), (4, .int 0)]) [0, 3, 4, 5, 2, 1] rfl ?_
      exact loop11 (10 + 1) 1 _ (by omega) (by omega) sm_rf
    · refine j_if_ne X 26 (by decide) dX7_start_16 (fun c_19 => False.elim (by revert c_19; decide)) (fun c_19 => ?_)
      refine j_aload_n X 0 rfl rfl dX7_start_19 ?_
      refine j_ldc X (v := (-1000000001)) aw_108 dX7_start_20 ?_
      refine j_callVI X (nn := 1) (As := [.int (-1000000001)]) (st := []) (ci := 7) (by decide) (wE_7 _ rfl) rfl aw_117 aw_118 (c_X7_refuse l D y ad M (-1000000001) 1 (by decide) (by decide)) aw_116 aw_119 aw_2 (by decide +kernel) ⟨by decide, by decide⟩ rfl (Nat.le_of_ble_eq_true rfl) ⟨by decide, by decide⟩ dX7_start_22 ?_
      rintro r_ M1_ ⟨rfl, rfl⟩
      exact j_iret X hr hlocks dX7_start_25 (by unfold sp_start; (repeat' split) <;> first | rfl | omega | (exfalso; omega))
  · refine j_if_eq X 19 (by decide) dX7_start_7 (fun c_20 => ?_) (fun c_20 => False.elim (by revert c_20; decide))
    refine j_aload_n X 0 rfl rfl dX7_start_19 ?_
    refine j_ldc X (v := (-1000000001)) aw_108 dX7_start_20 ?_
    refine j_callVI X (nn := 1) (As := [.int (-1000000001)]) (st := []) (ci := 7) (by decide) (wE_7 _ rfl) rfl aw_117 aw_118 (c_X7_refuse l D y ad M (-1000000001) 1 (by decide) (by decide)) aw_116 aw_119 aw_2 (by decide +kernel) ⟨by decide, by decide⟩ rfl (Nat.le_of_ble_eq_true rfl) ⟨by decide, by decide⟩ dX7_start_22 ?_
    rintro r_ M1_ ⟨rfl, rfl⟩
    exact j_iret X hr hlocks dX7_start_25 (by unfold sp_start; (repeat' split) <;> first | rfl | omega | (exfalso; omega))
set_option maxRecDepth 100000 in
set_option maxHeartbeats 4000000 in
theorem c0_X7_pace (l : Launch) (D : va_G) (y : wY) (ad : Nat → Nat) (M : Mem) (hz : Z0 M) (n what : Int32) : MI l D y ad yX7_pace (Cond.code yX7_pace cX7_pace 6 (some .int)) 6 M [.ref (ad 0), .int n, .int what] (fun r _ => sp_pace n what = r) := by
  refine MI_of (by decide) (Nat.le_of_ble_eq_true rfl) ?_
  intro p e s m args below meth c X hr hlocks
  refine j_lv (lv1 := [(0, .ref (ad 0)), (1, .int n), (2, .int what)]) [0, 1, 2] rfl ?_
  refine j_iload_n X 1 rfl rfl dX7_pace_0 ?_
  refine j_iconst X (v := 0) (by decide) dX7_pace_1 ?_
  refine j_bipush X (v := 60) (by decide) dX7_pace_2 ?_
  refine j_callSI X (nn := 3) (As := [.int n, .int 0, .int 60]) (st := []) aw_110 (c_X7_isWithin l D y ad M n 0 60 0 60 (by decide) (by decide)) aw_109 aw_111 aw_2 (by decide +kernel) ⟨by decide, by decide⟩ rfl (Nat.le_of_ble_eq_true rfl) ⟨by decide, by decide⟩ dX7_pace_4 ?_
  rintro r_ M1_ (⟨rfl, rfl, h_1⟩ | ⟨rfl, rfl, h_1⟩)
  · refine j_if_eq X 19 (by decide) dX7_pace_7 (fun c_2 => False.elim (by revert c_2; decide)) (fun c_2 => ?_)
    refine j_iload_n X 2 rfl rfl dX7_pace_10 ?_
    refine j_iconst X (v := 0) (by decide) dX7_pace_11 ?_
    refine j_iconst X (v := 1) (by decide) dX7_pace_12 ?_
    refine j_callSI X (nn := 3) (As := [.int what, .int 0, .int 1]) (st := []) aw_110 (c_X7_isWithin l D y ad M what 0 1 0 1 (by decide) (by decide)) aw_109 aw_111 aw_2 (by decide +kernel) ⟨by decide, by decide⟩ rfl (Nat.le_of_ble_eq_true rfl) ⟨by decide, by decide⟩ dX7_pace_13 ?_
    rintro r_ M1_ (⟨rfl, rfl, h_3⟩ | ⟨rfl, rfl, h_3⟩)
    · refine j_if_ne X 26 (by decide) dX7_pace_16 (fun c_4 => ?_) (fun c_4 => False.elim (by revert c_4; decide))
      obtain ⟨N, hN, rfl⟩ := nI_oft (x := n) (n := 60) (by omega) (by omega) (by decide)
      rw [nI_ti hN (by decide)] at h_1
      refine j_iconst X (v := 0) (by decide) dX7_pace_26 ?_
      refine j_istore_n X [(3, .int 0), (0, .ref (ad 0)), (1, .int (nI N)), (2, .int what)] rfl (by decide) rfl dX7_pace_27 ?_
      refine j_iconst X (v := (-1)) (by decide) dX7_pace_28 ?_
      refine j_istore X [(4, .int (-1)), (3, .int 0), (0, .ref (ad 0)), (1, .int (nI N)), (2, .int what)] (by decide) rfl dX7_pace_29 ?_
      refine j_iconst X (v := 0) (by decide) dX7_pace_31 ?_
      refine j_istore X [(5, .int 0), (4, .int (-1)), (3, .int 0), (0, .ref (ad 0)), (1, .int (nI N)), (2, .int what)] (by decide) rfl dX7_pace_32 ?_
      refine j_iload X 0 rfl dX7_pace_34 ?_
      refine j_bipush X (v := 10) (by decide) dX7_pace_36 ?_
      refine j_icmp_ge X 89 (by decide) dX7_pace_38 (fun c_5 => False.elim (by revert c_5; decide)) (fun c_5 => ?_)
      refine j_aload_n X 3 rfl rfl dX7_pace_41 ?_
      refine j_callVV X (nn := 0) (As := []) (st := []) (ci := 7) (by decide) (wE_7 _ rfl) rfl aw_534 aw_535 (c_think0 l D y ad M hz.1) aw_533 aw_536 aw_2 (by decide +kernel) ⟨by decide, by decide⟩ rfl (Nat.le_of_ble_eq_true rfl) ⟨by decide, by decide⟩ dX7_pace_42 ?_
      rintro M_7 ⟨s_6, s_6_3, s_6_7, s_6_8⟩
      refine j_aload_n X 3 rfl rfl dX7_pace_45 ?_
      refine j_get X (by decide) (wE_7 _ rfl) rfl awF7 2 (by decide) aw_21 rfl (v := .ref (ad 49)) rfl dX7_pace_46 ?_
      refine j_iload X 0 rfl dX7_pace_49 ?_
      refine j_putN X (up M_7 49 5 0) up_o (by decide) (wE_0 _ rfl) rfl awF0 5 (by decide) (wP_0_5 _ _ rfl) tyX0 tyX0_ok nmX0 rfl (ty := .int) (by decide +kernel) rfl rfl (Nat.le_of_ble_eq_true rfl) (List.mem_of_getElem? (i := 17) rfl) rfl dX7_pace_51 ?_
      refine j_aload_n X 3 rfl rfl dX7_pace_54 ?_
      refine j_iload_n X 4 rfl rfl dX7_pace_55 ?_
      refine j_callVV X (nn := 1) (As := [.int (nI N)]) (st := []) (ci := 7) (by decide) (wE_7 _ rfl) rfl aw_545 aw_546 (c_thinkDays0 l D y ad (up M_7 49 5 0) N (by omega) ((show _ = M_7 49 3 from by simp [up]).trans (s_6_3.trans hz.1))) aw_544 aw_547 aw_2 (by decide +kernel) ⟨by decide, by decide⟩ rfl (Nat.le_of_ble_eq_true rfl) ⟨by decide, by decide⟩ dX7_pace_56 ?_
      rintro M_9 s_8
      refine j_aload_n X 3 rfl rfl dX7_pace_59 ?_
      refine j_get X (by decide) (wE_7 _ rfl) rfl awF7 2 (by decide) aw_21 rfl (v := .ref (ad 49)) rfl dX7_pace_60 ?_
      refine j_callVNI X (nn := 0) (As := []) (st := []) (ci := 0) (by decide) (wE_0 _ rfl) rfl aw_462 aw_463 (c_endedMany0_49 l D y ad M_9 ((s_8 49 3 rfl).trans ((show _ = M_7 49 3 from by simp [up]).trans (s_6_3.trans hz.1)))) (List.mem_of_getElem? (i := 31) rfl) aw_464 aw_20 (by decide +kernel) ⟨by decide, by decide⟩ rfl (Nat.le_of_ble_eq_true rfl) ⟨by decide, by decide⟩ dX7_pace_63 ?_
      rintro r_ M1_ ⟨rfl, rfl⟩
      refine j_iload X 1 rfl dX7_pace_66 ?_
      refine j_icmp_le X 83 (by decide) dX7_pace_68 (fun c_10 => False.elim (by revert c_10; decide)) (fun c_10 => ?_)
      refine j_iload X 0 rfl dX7_pace_71 ?_
      refine j_istore_n X [(3, .int 0), (5, .int 0), (4, .int (-1)), (0, .ref (ad 0)), (1, .int (nI N)), (2, .int what)] rfl (by decide) rfl dX7_pace_73 ?_
      refine j_aload_n X 3 rfl rfl dX7_pace_74 ?_
      refine j_get X (by decide) (wE_7 _ rfl) rfl awF7 2 (by decide) aw_21 rfl (v := .ref (ad 49)) rfl dX7_pace_75 ?_
      refine j_callVNI X (nn := 0) (As := []) (st := []) (ci := 0) (by decide) (wE_0 _ rfl) rfl aw_462 aw_463 (c_endedMany0_49 l D y ad M_9 ((s_8 49 3 rfl).trans ((show _ = M_7 49 3 from by simp [up]).trans (s_6_3.trans hz.1)))) (List.mem_of_getElem? (i := 31) rfl) aw_464 aw_20 (by decide +kernel) ⟨by decide, by decide⟩ rfl (Nat.le_of_ble_eq_true rfl) ⟨by decide, by decide⟩ dX7_pace_78 ?_
      rintro r_ M1_ ⟨rfl, rfl⟩
      refine j_istore X [(4, .int 0), (3, .int 0), (5, .int 0), (0, .ref (ad 0)), (1, .int (nI N)), (2, .int what)] (by decide) rfl dX7_pace_81 ?_
      refine j_iinc X (v := 0 + 1) 2 [(5, .int (0 + 1)), (4, .int 0), (3, .int 0), (0, .ref (ad 0)), (1, .int (nI N)), (2, .int what)] rfl rfl (by decide) rfl dX7_pace_83 ?_
      refine j_goto X 34 (by decide) dX7_pace_86 ?_
      have loop11 : ∀ (n_11 i_11 : Nat) (M11 : Mem), i_11 ≤ 10 → 10 - i_11 < n_11 → sm (fun b _ => b == 49) M_9 M11 → J p l e (rmN 6) s m args below meth c 0 0 (QI (fun r _ => sp_pace n what = r) D y ad M s args below) D y ad (va_A (PL y ad M) s.heap.size) 6 M11 34 [(5, .int (nI i_11)), (0, .ref (ad 0)), (1, .int (nI N)), (2, .int what), (3, .int 0), (4, .int 0)] [] := by
        intro n_11
        induction n_11 with
        | zero => intro i_11 M11 h1 h2; exact absurd h2 (by omega)
        | succ n_11 ih11 =>
          intro i_11 M11 h1i_11 h2i_11 hs11
          refine j_iload X 0 rfl dX7_pace_34 ?_
          refine j_bipush X (v := 10) (by decide) dX7_pace_36 ?_
          refine j_icmp_ge X 89 (by decide) dX7_pace_38 (fun c_12 => ?_) (fun c_12 => ?_)
          · have c_12 := (nI_leI (by omega) (by omega)).mp (show nI (10) ≤ nI i_11 from c_12)
            refine j_iload_n X 3 rfl rfl dX7_pace_89 ?_
            refine j_if_ne X 97 (by decide) dX7_pace_90 (fun c_13 => ?_) (fun c_13 => ?_)
            · have qc_13 := ti_ne (n := 0) (by decide) c_13
              refine j_iload X 5 rfl dX7_pace_97 ?_
              exact j_iret X hr hlocks dX7_pace_99 (by unfold sp_pace; rw [nI_ti hN (by decide)]; (repeat' split) <;> first | rfl | omega | (exfalso; omega))
            · have qc_13 := ti_eq (n := 0) (by decide) c_13
              refine j_iload_n X 4 rfl rfl dX7_pace_93 ?_
              refine j_goto X 99 (by decide) dX7_pace_94 ?_
              exact j_iret X hr hlocks dX7_pace_99 (by unfold sp_pace; rw [nI_ti hN (by decide)]; (repeat' split) <;> first | rfl | omega | (exfalso; omega))
          · have c_12 : i_11 < 10 := by
              rcases Nat.lt_or_ge i_11 (10) with g | g
              · exact g
              · exact absurd (show nI (10) ≤ nI i_11 from nI_le g (by omega)) c_12
            refine j_aload_n X 1 rfl rfl dX7_pace_41 ?_
            refine j_callVV X (nn := 0) (As := []) (st := []) (ci := 7) (by decide) (wE_7 _ rfl) rfl aw_534 aw_535 (c_think0 l D y ad M11 ((hs11 12 3 rfl).trans ((s_8 12 3 rfl).trans ((show _ = M_7 12 3 from by simp [up]).trans ((s_6 12 3 rfl).trans hz.1))))) aw_533 aw_536 aw_2 (by decide +kernel) ⟨by decide, by decide⟩ rfl (Nat.le_of_ble_eq_true rfl) ⟨by decide, by decide⟩ dX7_pace_42 ?_
            rintro M_15 ⟨s_14, s_14_3, s_14_7, s_14_8⟩
            refine j_aload_n X 1 rfl rfl dX7_pace_45 ?_
            refine j_get X (by decide) (wE_7 _ rfl) rfl awF7 2 (by decide) aw_21 rfl (v := .ref (ad 49)) rfl dX7_pace_46 ?_
            refine j_iload X 0 rfl dX7_pace_49 ?_
            refine j_putN X (up M_15 49 5 (nI i_11)) up_o (by decide) (wE_0 _ rfl) rfl awF0 5 (by decide) (wP_0_5 _ _ rfl) tyX0 tyX0_ok nmX0 rfl (ty := .int) (by decide +kernel) rfl rfl (Nat.le_of_ble_eq_true rfl) (List.mem_of_getElem? (i := 17) rfl) rfl dX7_pace_51 ?_
            refine j_aload_n X 1 rfl rfl dX7_pace_54 ?_
            refine j_iload_n X 2 rfl rfl dX7_pace_55 ?_
            refine j_callVV X (nn := 1) (As := [.int (nI N)]) (st := []) (ci := 7) (by decide) (wE_7 _ rfl) rfl aw_545 aw_546 (c_thinkDays0 l D y ad (up M_15 49 5 (nI i_11)) N (by omega) ((show _ = M_15 49 3 from by simp [up]).trans (s_14_3.trans ((hs11 12 3 rfl).trans ((s_8 12 3 rfl).trans ((show _ = M_7 12 3 from by simp [up]).trans ((s_6 12 3 rfl).trans hz.1))))))) aw_544 aw_547 aw_2 (by decide +kernel) ⟨by decide, by decide⟩ rfl (Nat.le_of_ble_eq_true rfl) ⟨by decide, by decide⟩ dX7_pace_56 ?_
            rintro M_17 s_16
            refine j_aload_n X 1 rfl rfl dX7_pace_59 ?_
            refine j_get X (by decide) (wE_7 _ rfl) rfl awF7 2 (by decide) aw_21 rfl (v := .ref (ad 49)) rfl dX7_pace_60 ?_
            refine j_callVNI X (nn := 0) (As := []) (st := []) (ci := 0) (by decide) (wE_0 _ rfl) rfl aw_462 aw_463 (c_endedMany0_49 l D y ad M_17 ((s_16 49 3 rfl).trans ((show _ = M_15 49 3 from by simp [up]).trans (s_14_3.trans ((hs11 12 3 rfl).trans ((s_8 12 3 rfl).trans ((show _ = M_7 12 3 from by simp [up]).trans ((s_6 12 3 rfl).trans hz.1)))))))) (List.mem_of_getElem? (i := 31) rfl) aw_464 aw_20 (by decide +kernel) ⟨by decide, by decide⟩ rfl (Nat.le_of_ble_eq_true rfl) ⟨by decide, by decide⟩ dX7_pace_63 ?_
            rintro r_ M1_ ⟨rfl, rfl⟩
            refine j_iload X 5 rfl dX7_pace_66 ?_
            refine j_icmp_le X 83 (by decide) dX7_pace_68 (fun c_18 => ?_) (fun c_18 => False.elim (by revert c_18; decide))
            refine j_iinc X (v := (nI (i_11 + 1))) 0 [(5, .int (nI (i_11 + 1))), (0, .ref (ad 0)), (1, .int (nI N)), (2, .int what), (3, .int 0), (4, .int 0)] rfl (nI_1 i_11) (by decide) rfl dX7_pace_83 ?_
            refine j_goto X 34 (by decide) dX7_pace_86 ?_
            refine j_lv (lv1 := [(5, .int (nI (i_11 + 1))), (0, .ref (ad 0)), (1, .int (nI N)), (2, .int what), (3, .int 0), (4, .int 0)]) [0, 1, 2, 3, 4, 5] rfl ?_
            exact ih11 (i_11 + 1) _ (by omega) (by omega) (sm_tr (sm_up (sm_tr hs11 (sm_w s_14 (by intro b k hb; simp only [Bool.or_eq_false_iff, Bool.and_eq_false_iff, beq_eq_false_iff_ne, ne_eq, decide_eq_false_iff_not] at hb ⊢; omega))) rfl) (sm_w s_16 (by intro b k hb; simp only [Bool.or_eq_false_iff, Bool.and_eq_false_iff, beq_eq_false_iff_ne, ne_eq, decide_eq_false_iff_not] at hb ⊢; omega)))
      refine j_lv (lv1 := [(5, .int (nI 1)), (0, .ref (ad 0)), (1, .int (nI N)), (2, .int what), (3, .int 0), (4, .int 0)]) [0, 3, 4, 5, 2, 1] rfl ?_
      exact loop11 (10 + 1) 1 _ (by omega) (by omega) sm_rf
    · refine j_if_ne X 26 (by decide) dX7_pace_16 (fun c_19 => False.elim (by revert c_19; decide)) (fun c_19 => ?_)
      refine j_aload_n X 0 rfl rfl dX7_pace_19 ?_
      refine j_ldc X (v := (-1000000001)) aw_108 dX7_pace_20 ?_
      refine j_callVI X (nn := 1) (As := [.int (-1000000001)]) (st := []) (ci := 7) (by decide) (wE_7 _ rfl) rfl aw_117 aw_118 (c_X7_refuse l D y ad M (-1000000001) 1 (by decide) (by decide)) aw_116 aw_119 aw_2 (by decide +kernel) ⟨by decide, by decide⟩ rfl (Nat.le_of_ble_eq_true rfl) ⟨by decide, by decide⟩ dX7_pace_22 ?_
      rintro r_ M1_ ⟨rfl, rfl⟩
      exact j_iret X hr hlocks dX7_pace_25 (by unfold sp_pace; (repeat' split) <;> first | rfl | omega | (exfalso; omega))
  · refine j_if_eq X 19 (by decide) dX7_pace_7 (fun c_20 => ?_) (fun c_20 => False.elim (by revert c_20; decide))
    refine j_aload_n X 0 rfl rfl dX7_pace_19 ?_
    refine j_ldc X (v := (-1000000001)) aw_108 dX7_pace_20 ?_
    refine j_callVI X (nn := 1) (As := [.int (-1000000001)]) (st := []) (ci := 7) (by decide) (wE_7 _ rfl) rfl aw_117 aw_118 (c_X7_refuse l D y ad M (-1000000001) 1 (by decide) (by decide)) aw_116 aw_119 aw_2 (by decide +kernel) ⟨by decide, by decide⟩ rfl (Nat.le_of_ble_eq_true rfl) ⟨by decide, by decide⟩ dX7_pace_22 ?_
    rintro r_ M1_ ⟨rfl, rfl⟩
    exact j_iret X hr hlocks dX7_pace_25 (by unfold sp_pace; (repeat' split) <;> first | rfl | omega | (exfalso; omega))
set_option maxRecDepth 100000 in
set_option maxHeartbeats 4000000 in
theorem c0_X7_first (l : Launch) (D : va_G) (y : wY) (ad : Nat → Nat) (M : Mem) (hz : Z0 M) (n what : Int32) : MI l D y ad yX7_first (Cond.code yX7_first cX7_first 6 (some .int)) 6 M [.ref (ad 0), .int n, .int what] (fun r _ => sp_first n what = r) := by
  refine MI_of (by decide) (Nat.le_of_ble_eq_true rfl) ?_
  intro p e s m args below meth c X hr hlocks
  refine j_lv (lv1 := [(0, .ref (ad 0)), (1, .int n), (2, .int what)]) [0, 1, 2] rfl ?_
  refine j_iload_n X 1 rfl rfl dX7_first_0 ?_
  refine j_iconst X (v := 0) (by decide) dX7_first_1 ?_
  refine j_bipush X (v := 60) (by decide) dX7_first_2 ?_
  refine j_callSI X (nn := 3) (As := [.int n, .int 0, .int 60]) (st := []) aw_110 (c_X7_isWithin l D y ad M n 0 60 0 60 (by decide) (by decide)) aw_109 aw_111 aw_2 (by decide +kernel) ⟨by decide, by decide⟩ rfl (Nat.le_of_ble_eq_true rfl) ⟨by decide, by decide⟩ dX7_first_4 ?_
  rintro r_ M1_ (⟨rfl, rfl, h_1⟩ | ⟨rfl, rfl, h_1⟩)
  · refine j_if_eq X 19 (by decide) dX7_first_7 (fun c_2 => False.elim (by revert c_2; decide)) (fun c_2 => ?_)
    refine j_iload_n X 2 rfl rfl dX7_first_10 ?_
    refine j_iconst X (v := 0) (by decide) dX7_first_11 ?_
    refine j_iconst X (v := 1) (by decide) dX7_first_12 ?_
    refine j_callSI X (nn := 3) (As := [.int what, .int 0, .int 1]) (st := []) aw_110 (c_X7_isWithin l D y ad M what 0 1 0 1 (by decide) (by decide)) aw_109 aw_111 aw_2 (by decide +kernel) ⟨by decide, by decide⟩ rfl (Nat.le_of_ble_eq_true rfl) ⟨by decide, by decide⟩ dX7_first_13 ?_
    rintro r_ M1_ (⟨rfl, rfl, h_3⟩ | ⟨rfl, rfl, h_3⟩)
    · refine j_if_ne X 26 (by decide) dX7_first_16 (fun c_4 => ?_) (fun c_4 => False.elim (by revert c_4; decide))
      refine j_iconst X (v := (-1)) (by decide) dX7_first_26 ?_
      refine j_istore_n X [(3, .int (-1)), (0, .ref (ad 0)), (1, .int n), (2, .int what)] rfl (by decide) rfl dX7_first_27 ?_
      refine j_iconst X (v := 0) (by decide) dX7_first_28 ?_
      refine j_istore X [(4, .int 0), (3, .int (-1)), (0, .ref (ad 0)), (1, .int n), (2, .int what)] (by decide) rfl dX7_first_29 ?_
      refine j_iconst X (v := 0) (by decide) dX7_first_31 ?_
      refine j_istore X [(5, .int 0), (4, .int 0), (3, .int (-1)), (0, .ref (ad 0)), (1, .int n), (2, .int what)] (by decide) rfl dX7_first_32 ?_
      refine j_iload X 0 rfl dX7_first_34 ?_
      refine j_aload_n X 3 rfl rfl dX7_first_36 ?_
      refine j_get X (by decide) (wE_7 _ rfl) rfl awF7 0 (by decide) aw_16 rfl (v := .ref (ad 1)) rfl dX7_first_37 ?_
      refine j_getN X (by decide) (wE_6 _ rfl) rfl awF6 2 (by decide) (List.mem_of_getElem? (i := 23) rfl) rfl (v := .ref (ad 12)) rfl dX7_first_40 ?_
      refine j_getN X (by decide) (wE_0 _ rfl) rfl awF0 3 (by decide) (List.mem_of_getElem? (i := 15) rfl) rfl (v := .int (M 12 3)) rfl dX7_first_43 ?_
      refine j_eqi (v := 0) hz.1 ?_
      refine j_icmp_ge X 106 (by decide) dX7_first_46 (fun c_5 => ?_) (fun c_5 => False.elim (by revert c_5; decide))
      refine j_iload_n X 2 rfl rfl dX7_first_106 ?_
      refine j_if_ge X 117 (by decide) dX7_first_107 (fun c_6 => False.elim (by revert c_6; decide)) (fun c_6 => ?_)
      refine j_aload_n X 3 rfl rfl dX7_first_110 ?_
      refine j_ldc X (v := (-1000000002)) aw_560 dX7_first_111 ?_
      refine j_callVI X (nn := 1) (As := [.int (-1000000002)]) (st := []) (ci := 7) (by decide) (wE_7 _ rfl) rfl aw_117 aw_118 (c_X7_refuse l D y ad M (-1000000002) 2 (by decide) (by decide)) aw_116 aw_119 aw_2 (by decide +kernel) ⟨by decide, by decide⟩ rfl (Nat.le_of_ble_eq_true rfl) ⟨by decide, by decide⟩ dX7_first_113 ?_
      rintro r_ M1_ ⟨rfl, rfl⟩
      exact j_iret X hr hlocks dX7_first_116 (by unfold sp_first; (repeat' split) <;> first | rfl | omega | (exfalso; omega))
    · refine j_if_ne X 26 (by decide) dX7_first_16 (fun c_7 => False.elim (by revert c_7; decide)) (fun c_7 => ?_)
      refine j_aload_n X 0 rfl rfl dX7_first_19 ?_
      refine j_ldc X (v := (-1000000001)) aw_108 dX7_first_20 ?_
      refine j_callVI X (nn := 1) (As := [.int (-1000000001)]) (st := []) (ci := 7) (by decide) (wE_7 _ rfl) rfl aw_117 aw_118 (c_X7_refuse l D y ad M (-1000000001) 1 (by decide) (by decide)) aw_116 aw_119 aw_2 (by decide +kernel) ⟨by decide, by decide⟩ rfl (Nat.le_of_ble_eq_true rfl) ⟨by decide, by decide⟩ dX7_first_22 ?_
      rintro r_ M1_ ⟨rfl, rfl⟩
      exact j_iret X hr hlocks dX7_first_25 (by unfold sp_first; (repeat' split) <;> first | rfl | omega | (exfalso; omega))
  · refine j_if_eq X 19 (by decide) dX7_first_7 (fun c_8 => ?_) (fun c_8 => False.elim (by revert c_8; decide))
    refine j_aload_n X 0 rfl rfl dX7_first_19 ?_
    refine j_ldc X (v := (-1000000001)) aw_108 dX7_first_20 ?_
    refine j_callVI X (nn := 1) (As := [.int (-1000000001)]) (st := []) (ci := 7) (by decide) (wE_7 _ rfl) rfl aw_117 aw_118 (c_X7_refuse l D y ad M (-1000000001) 1 (by decide) (by decide)) aw_116 aw_119 aw_2 (by decide +kernel) ⟨by decide, by decide⟩ rfl (Nat.le_of_ble_eq_true rfl) ⟨by decide, by decide⟩ dX7_first_22 ?_
    rintro r_ M1_ ⟨rfl, rfl⟩
    exact j_iret X hr hlocks dX7_first_25 (by unfold sp_first; (repeat' split) <;> first | rfl | omega | (exfalso; omega))
set_option maxRecDepth 100000 in
set_option maxHeartbeats 4000000 in
theorem c0_X7_last (l : Launch) (D : va_G) (y : wY) (ad : Nat → Nat) (M : Mem) (hz : Z0 M) (what : Int32) : MI l D y ad yX7_last (Cond.code yX7_last cX7_last 7 (some .int)) 6 M [.ref (ad 0), .int what] (fun r _ => sp_last what = r) := by
  refine MI_of (by decide) (Nat.le_of_ble_eq_true rfl) ?_
  intro p e s m args below meth c X hr hlocks
  refine j_lv (lv1 := [(0, .ref (ad 0)), (1, .int what)]) [0, 1] rfl ?_
  refine j_iload_n X 1 rfl rfl dX7_last_0 ?_
  refine j_iconst X (v := 0) (by decide) dX7_last_1 ?_
  refine j_iconst X (v := 1) (by decide) dX7_last_2 ?_
  refine j_callSI X (nn := 3) (As := [.int what, .int 0, .int 1]) (st := []) aw_110 (c_X7_isWithin l D y ad M what 0 1 0 1 (by decide) (by decide)) aw_109 aw_111 aw_2 (by decide +kernel) ⟨by decide, by decide⟩ rfl (Nat.le_of_ble_eq_true rfl) ⟨by decide, by decide⟩ dX7_last_3 ?_
  rintro r_ M1_ (⟨rfl, rfl, h_1⟩ | ⟨rfl, rfl, h_1⟩)
  · refine j_if_ne X 16 (by decide) dX7_last_6 (fun c_2 => ?_) (fun c_2 => False.elim (by revert c_2; decide))
    refine j_aload_n X 0 rfl rfl dX7_last_16 ?_
    refine j_callVV X (nn := 0) (As := []) (st := []) (ci := 7) (by decide) (wE_7 _ rfl) rfl aw_534 aw_535 (c_think0 l D y ad M hz.1) aw_533 aw_536 aw_2 (by decide +kernel) ⟨by decide, by decide⟩ rfl (Nat.le_of_ble_eq_true rfl) ⟨by decide, by decide⟩ dX7_last_17 ?_
    rintro M_4 ⟨s_3, s_3_3, s_3_7, s_3_8⟩
    refine j_iconst X (v := (-1)) (by decide) dX7_last_20 ?_
    refine j_istore_n X [(2, .int (-1)), (0, .ref (ad 0)), (1, .int what)] rfl (by decide) rfl dX7_last_21 ?_
    refine j_iconst X (v := 0) (by decide) dX7_last_22 ?_
    refine j_istore_n X [(3, .int 0), (2, .int (-1)), (0, .ref (ad 0)), (1, .int what)] rfl (by decide) rfl dX7_last_23 ?_
    refine j_iconst X (v := 1) (by decide) dX7_last_24 ?_
    refine j_istore X [(4, .int 1), (3, .int 0), (2, .int (-1)), (0, .ref (ad 0)), (1, .int what)] (by decide) rfl dX7_last_25 ?_
    have loop5 : ∀ (n_5 i_5 : Nat) (M5 : Mem), i_5 ≤ 61 → 61 - i_5 < n_5 → sm (fun b k => b == 49 && (k == 4 || k == 6)) M_4 M5 → J p l e (rmN 6) s m args below meth c 0 0 (QI (fun r _ => sp_last what = r) D y ad M s args below) D y ad (va_A (PL y ad M) s.heap.size) 7 M5 27 [(4, .int (nI i_5)), (0, .ref (ad 0)), (1, .int what), (2, .int (-1)), (3, .int 0)] [] := by
      intro n_5
      induction n_5 with
      | zero => intro i_5 M5 h1 h2; exact absurd h2 (by omega)
      | succ n_5 ih5 =>
        intro i_5 M5 h1i_5 h2i_5 hs5
        refine j_iload X 0 rfl dX7_last_27 ?_
        refine j_bipush X (v := 60) (by decide) dX7_last_29 ?_
        refine j_icmp_gt X 85 (by decide) dX7_last_31 (fun c_6 => ?_) (fun c_6 => ?_)
        · refine j_iload_n X 3 rfl rfl dX7_last_85 ?_
          refine j_if_ge X 96 (by decide) dX7_last_86 (fun c_7 => False.elim (by revert c_7; decide)) (fun c_7 => ?_)
          refine j_aload_n X 1 rfl rfl dX7_last_89 ?_
          refine j_ldc X (v := (-1000000002)) aw_560 dX7_last_90 ?_
          refine j_callVI X (nn := 1) (As := [.int (-1000000002)]) (st := []) (ci := 7) (by decide) (wE_7 _ rfl) rfl aw_117 aw_118 (c_X7_refuse l D y ad M5 (-1000000002) 2 (by decide) (by decide)) aw_116 aw_119 aw_2 (by decide +kernel) ⟨by decide, by decide⟩ rfl (Nat.le_of_ble_eq_true rfl) ⟨by decide, by decide⟩ dX7_last_92 ?_
          rintro r_ M1_ ⟨rfl, rfl⟩
          exact j_iret X hr hlocks dX7_last_95 (by unfold sp_last; (repeat' split) <;> first | rfl | omega | (exfalso; omega))
        · have c_6 : i_5 < 61 := by
            rcases Nat.lt_or_ge i_5 (61) with g | g
            · exact g
            · exact absurd (show nI 60 < nI i_5 from nI_lt (by omega) (by omega)) c_6
          refine j_aload_n X 1 rfl rfl dX7_last_34 ?_
          refine j_get X (by decide) (wE_7 _ rfl) rfl awF7 2 (by decide) aw_21 rfl (v := .ref (ad 49)) rfl dX7_last_35 ?_
          refine j_callVNI X (nn := 0) (As := []) (st := []) (ci := 0) (by decide) (wE_0 _ rfl) rfl aw_466 aw_467 (c_setEnded0_49 l D y ad M5 ((hs5 49 3 rfl).trans (s_3_3.trans hz.1))) (List.mem_of_getElem? (i := 35) rfl) aw_468 aw_20 (by decide +kernel) ⟨by decide, by decide⟩ rfl (Nat.le_of_ble_eq_true rfl) ⟨by decide, by decide⟩ dX7_last_38 ?_
          rintro r_ M1_ ⟨rfl, rfl⟩
          refine j_istore X [(5, .int 0), (4, .int (nI i_5)), (0, .ref (ad 0)), (1, .int what), (2, .int (-1)), (3, .int 0)] (by decide) rfl dX7_last_41 ?_
          refine j_aload_n X 2 rfl rfl dX7_last_43 ?_
          refine j_get X (by decide) (wE_7 _ rfl) rfl awF7 2 (by decide) aw_21 rfl (v := .ref (ad 49)) rfl dX7_last_44 ?_
          refine j_iconst X (v := 0) (by decide) dX7_last_47 ?_
          refine j_callVNV X (nn := 1) (As := [.int 0]) (st := []) (ci := 0) (by decide) (wE_0 _ rfl) rfl aw_439 aw_440 (c_passDay0_49 l D y ad M5 ((hs5 49 3 rfl).trans (s_3_3.trans hz.1)) 0) (List.mem_of_getElem? (i := 27) rfl) aw_441 aw_20 (by decide +kernel) ⟨by decide, by decide⟩ rfl (Nat.le_of_ble_eq_true rfl) ⟨by decide, by decide⟩ dX7_last_48 ?_
          rintro M_9 s_8
          refine j_aload_n X 2 rfl rfl dX7_last_51 ?_
          refine j_get X (by decide) (wE_7 _ rfl) rfl awF7 2 (by decide) aw_21 rfl (v := .ref (ad 49)) rfl dX7_last_52 ?_
          refine j_callVNI X (nn := 0) (As := []) (st := []) (ci := 0) (by decide) (wE_0 _ rfl) rfl aw_466 aw_467 (c_setEnded0_49 l D y ad M_9 ((s_8 49 3 rfl).trans ((hs5 49 3 rfl).trans (s_3_3.trans hz.1)))) (List.mem_of_getElem? (i := 35) rfl) aw_468 aw_20 (by decide +kernel) ⟨by decide, by decide⟩ rfl (Nat.le_of_ble_eq_true rfl) ⟨by decide, by decide⟩ dX7_last_55 ?_
          rintro r_ M1_ ⟨rfl, rfl⟩
          refine j_iload X 0 rfl dX7_last_58 ?_
          refine j_iconst X (v := (-1)) (by decide) dX7_last_60 ?_
          refine j_ixor X dX7_last_61 ?_
          refine j_eqi (v := (-1)) (by decide) ?_
          refine j_iand X dX7_last_62 ?_
          refine j_eqi (v := 0) (by decide) ?_
          refine j_istore X [(6, .int 0), (5, .int 0), (4, .int (nI i_5)), (0, .ref (ad 0)), (1, .int what), (2, .int (-1)), (3, .int 0)] (by decide) rfl dX7_last_63 ?_
          refine j_iload X 0 rfl dX7_last_65 ?_
          refine j_if_eq X 79 (by decide) dX7_last_67 (fun c_10 => ?_) (fun c_10 => False.elim (by revert c_10; decide))
          refine j_iinc X (v := (nI (i_5 + 1))) 2 [(4, .int (nI (i_5 + 1))), (6, .int 0), (5, .int 0), (0, .ref (ad 0)), (1, .int what), (2, .int (-1)), (3, .int 0)] rfl (nI_1 i_5) (by decide) rfl dX7_last_79 ?_
          refine j_goto X 27 (by decide) dX7_last_82 ?_
          refine j_lv (lv1 := [(4, .int (nI (i_5 + 1))), (0, .ref (ad 0)), (1, .int what), (2, .int (-1)), (3, .int 0)]) [0, 3, 4, 5, 6] rfl ?_
          exact ih5 (i_5 + 1) _ (by omega) (by omega) (sm_tr hs5 (sm_w s_8 (by intro b k hb; simp only [Bool.or_eq_false_iff, Bool.and_eq_false_iff, beq_eq_false_iff_ne, ne_eq, decide_eq_false_iff_not] at hb ⊢; omega)))
    refine j_lv (lv1 := [(4, .int (nI 1)), (0, .ref (ad 0)), (1, .int what), (2, .int (-1)), (3, .int 0)]) [0, 3, 4, 2, 1] rfl ?_
    exact loop5 (61 + 1) 1 _ (by omega) (by omega) sm_rf
  · refine j_if_ne X 16 (by decide) dX7_last_6 (fun c_11 => False.elim (by revert c_11; decide)) (fun c_11 => ?_)
    refine j_aload_n X 0 rfl rfl dX7_last_9 ?_
    refine j_ldc X (v := (-1000000001)) aw_108 dX7_last_10 ?_
    refine j_callVI X (nn := 1) (As := [.int (-1000000001)]) (st := []) (ci := 7) (by decide) (wE_7 _ rfl) rfl aw_117 aw_118 (c_X7_refuse l D y ad M (-1000000001) 1 (by decide) (by decide)) aw_116 aw_119 aw_2 (by decide +kernel) ⟨by decide, by decide⟩ rfl (Nat.le_of_ble_eq_true rfl) ⟨by decide, by decide⟩ dX7_last_12 ?_
    rintro r_ M1_ ⟨rfl, rfl⟩
    exact j_iret X hr hlocks dX7_last_15 (by unfold sp_last; (repeat' split) <;> first | rfl | omega | (exfalso; omega))
set_option maxRecDepth 100000 in
set_option maxHeartbeats 4000000 in
theorem c0_X7_check (l : Launch) (D : va_G) (y : wY) (ad : Nat → Nat) (M : Mem) (hz : Z0 M) : MI l D y ad yX7_check (Cond.code yX7_check cX7_check 3 (some .int)) 6 M [.ref (ad 0)] (fun r _ => sp_check = r) := by
  refine MI_of (by decide) (Nat.le_of_ble_eq_true rfl) ?_
  intro p e s m args below meth c X hr hlocks
  refine j_lv (lv1 := [(0, .ref (ad 0))]) [0] rfl ?_
  refine j_aload_n X 0 rfl rfl dX7_check_0 ?_
  refine j_get X (by decide) (wE_7 _ rfl) rfl awF7 0 (by decide) aw_16 rfl (v := .ref (ad 1)) rfl dX7_check_1 ?_
  refine j_getN X (by decide) (wE_6 _ rfl) rfl awF6 6 (by decide) (List.mem_of_getElem? (i := 27) rfl) rfl (v := .int (M 1 6)) rfl dX7_check_4 ?_
  refine j_eqi (v := 0) hz.2.2.2.2.2.2.2.1 ?_
  refine j_istore_n X [(1, .int 0), (0, .ref (ad 0))] rfl (by decide) rfl dX7_check_7 ?_
  refine j_aload_n X 1 rfl rfl dX7_check_8 ?_
  refine j_get X (by decide) (wE_7 _ rfl) rfl awF7 0 (by decide) aw_16 rfl (v := .ref (ad 1)) rfl dX7_check_9 ?_
  refine j_iconst X (v := 0) (by decide) dX7_check_12 ?_
  refine j_putN X (up M 1 6 0) up_o (by decide) (wE_6 _ rfl) rfl awF6 6 (by decide) (wP_6_6 _ _ rfl) tyX6 tyX6_ok nmX6 rfl (ty := .int) (by decide +kernel) rfl rfl (Nat.le_of_ble_eq_true rfl) (List.mem_of_getElem? (i := 27) rfl) rfl dX7_check_13 ?_
  refine j_aload_n X 1 rfl rfl dX7_check_16 ?_
  refine j_callVV X (nn := 0) (As := []) (st := []) (ci := 7) (by decide) (wE_7 _ rfl) rfl aw_534 aw_535 (c_think0 l D y ad (up M 1 6 0) ((show _ = M 12 3 from by simp [up]).trans hz.1)) aw_533 aw_536 aw_2 (by decide +kernel) ⟨by decide, by decide⟩ rfl (Nat.le_of_ble_eq_true rfl) ⟨by decide, by decide⟩ dX7_check_17 ?_
  rintro M_2 ⟨s_1, s_1_3, s_1_7, s_1_8⟩
  refine j_iconst X (v := 0) (by decide) dX7_check_20 ?_
  refine j_istore_n X [(2, .int 0), (1, .int 0), (0, .ref (ad 0))] rfl (by decide) rfl dX7_check_21 ?_
  refine j_iload_n X 0 rfl rfl dX7_check_22 ?_
  refine j_iload_n X 1 rfl rfl dX7_check_23 ?_
  refine j_icmp_ge X 64 (by decide) dX7_check_24 (fun c_3 => ?_) (fun c_3 => False.elim (by revert c_3; decide))
  refine j_iconst X (v := 0) (by decide) dX7_check_64 ?_
  exact j_iret X hr hlocks dX7_check_65 (by unfold sp_check; (repeat' split) <;> first | rfl | omega | (exfalso; omega))
end
section
theorem dX3_isMissing_0 : decode cX3_isMissing 0 = .ok (.aload_n 0, 1) := by decide +kernel
theorem dX3_isMissing_1 : decode cX3_isMissing 1 = .ok (.getfield 15, 3) := by decide +kernel
theorem dX3_isMissing_4 : decode cX3_isMissing 4 = .ok (.ifCond .ne 7, 3) := by decide +kernel
theorem dX3_isMissing_7 : decode cX3_isMissing 7 = .ok (.iconst 1, 1) := by decide +kernel
theorem dX3_isMissing_8 : decode cX3_isMissing 8 = .ok (.goto 4, 3) := by decide +kernel
theorem dX3_isMissing_12 : decode cX3_isMissing 12 = .ok (.ireturn, 1) := by decide +kernel
theorem dX7_put_0 : decode cX7_put 0 = .ok (.iload_n 1, 1) := by decide +kernel
theorem dX7_put_1 : decode cX7_put 1 = .ok (.invokestatic 225, 3) := by decide +kernel
theorem dX7_put_4 : decode cX7_put 4 = .ok (.ifCond .ne 10, 3) := by decide +kernel
theorem dX7_put_14 : decode cX7_put 14 = .ok (.aload_n 0, 1) := by decide +kernel
theorem dX7_put_15 : decode cX7_put 15 = .ok (.getfield 51, 3) := by decide +kernel
theorem dX7_put_18 : decode cX7_put 18 = .ok (.iload_n 1, 1) := by decide +kernel
theorem dX7_put_19 : decode cX7_put 19 = .ok (.aaload, 1) := by decide +kernel
theorem dX7_put_20 : decode cX7_put 20 = .ok (.astore 4, 2) := by decide +kernel
theorem dX7_put_22 : decode cX7_put 22 = .ok (.aload 4, 2) := by decide +kernel
theorem dX7_put_24 : decode cX7_put 24 = .ok (.invokevirtual 228, 3) := by decide +kernel
theorem dX7_put_27 : decode cX7_put 27 = .ok (.ifCond .eq 10, 3) := by decide +kernel
theorem dX7_put_30 : decode cX7_put 30 = .ok (.aload_n 0, 1) := by decide +kernel
theorem dX7_put_31 : decode cX7_put 31 = .ok (.ldc 197, 2) := by decide +kernel
theorem dX7_put_33 : decode cX7_put 33 = .ok (.invokevirtual 69, 3) := by decide +kernel
theorem dX7_put_36 : decode cX7_put 36 = .ok (.ireturn, 1) := by decide +kernel
theorem dX7_put_7 : decode cX7_put 7 = .ok (.aload_n 0, 1) := by decide +kernel
theorem dX7_put_8 : decode cX7_put 8 = .ok (.ldc 68, 2) := by decide +kernel
theorem dX7_put_10 : decode cX7_put 10 = .ok (.invokevirtual 69, 3) := by decide +kernel
theorem dX7_put_13 : decode cX7_put 13 = .ok (.ireturn, 1) := by decide +kernel
theorem dX7_edges_0 : decode cX7_edges 0 = .ok (.iload_n 1, 1) := by decide +kernel
theorem dX7_edges_1 : decode cX7_edges 1 = .ok (.invokestatic 225, 3) := by decide +kernel
theorem dX7_edges_4 : decode cX7_edges 4 = .ok (.ifCond .ne 10, 3) := by decide +kernel
theorem dX7_edges_14 : decode cX7_edges 14 = .ok (.aload_n 0, 1) := by decide +kernel
theorem dX7_edges_15 : decode cX7_edges 15 = .ok (.getfield 51, 3) := by decide +kernel
theorem dX7_edges_18 : decode cX7_edges 18 = .ok (.iload_n 1, 1) := by decide +kernel
theorem dX7_edges_19 : decode cX7_edges 19 = .ok (.aaload, 1) := by decide +kernel
theorem dX7_edges_20 : decode cX7_edges 20 = .ok (.astore_n 2, 1) := by decide +kernel
theorem dX7_edges_21 : decode cX7_edges 21 = .ok (.aload_n 2, 1) := by decide +kernel
theorem dX7_edges_22 : decode cX7_edges 22 = .ok (.invokevirtual 228, 3) := by decide +kernel
theorem dX7_edges_25 : decode cX7_edges 25 = .ok (.ifCond .eq 10, 3) := by decide +kernel
theorem dX7_edges_28 : decode cX7_edges 28 = .ok (.aload_n 0, 1) := by decide +kernel
theorem dX7_edges_29 : decode cX7_edges 29 = .ok (.ldc 197, 2) := by decide +kernel
theorem dX7_edges_31 : decode cX7_edges 31 = .ok (.invokevirtual 69, 3) := by decide +kernel
theorem dX7_edges_34 : decode cX7_edges 34 = .ok (.ireturn, 1) := by decide +kernel
theorem dX7_edges_7 : decode cX7_edges 7 = .ok (.aload_n 0, 1) := by decide +kernel
theorem dX7_edges_8 : decode cX7_edges 8 = .ok (.ldc 68, 2) := by decide +kernel
theorem dX7_edges_10 : decode cX7_edges 10 = .ok (.invokevirtual 69, 3) := by decide +kernel
theorem dX7_edges_13 : decode cX7_edges 13 = .ok (.ireturn, 1) := by decide +kernel
theorem dX7_judge_0 : decode cX7_judge 0 = .ok (.iload_n 1, 1) := by decide +kernel
theorem dX7_judge_1 : decode cX7_judge 1 = .ok (.invokestatic 225, 3) := by decide +kernel
theorem dX7_judge_4 : decode cX7_judge 4 = .ok (.ifCond .ne 10, 3) := by decide +kernel
theorem dX7_judge_14 : decode cX7_judge 14 = .ok (.aload_n 0, 1) := by decide +kernel
theorem dX7_judge_15 : decode cX7_judge 15 = .ok (.getfield 51, 3) := by decide +kernel
theorem dX7_judge_18 : decode cX7_judge 18 = .ok (.iload_n 1, 1) := by decide +kernel
theorem dX7_judge_19 : decode cX7_judge 19 = .ok (.aaload, 1) := by decide +kernel
theorem dX7_judge_20 : decode cX7_judge 20 = .ok (.astore_n 2, 1) := by decide +kernel
theorem dX7_judge_21 : decode cX7_judge 21 = .ok (.aload_n 2, 1) := by decide +kernel
theorem dX7_judge_22 : decode cX7_judge 22 = .ok (.invokevirtual 228, 3) := by decide +kernel
theorem dX7_judge_25 : decode cX7_judge 25 = .ok (.ifCond .eq 10, 3) := by decide +kernel
theorem dX7_judge_28 : decode cX7_judge 28 = .ok (.aload_n 0, 1) := by decide +kernel
theorem dX7_judge_29 : decode cX7_judge 29 = .ok (.ldc 197, 2) := by decide +kernel
theorem dX7_judge_31 : decode cX7_judge 31 = .ok (.invokevirtual 69, 3) := by decide +kernel
theorem dX7_judge_34 : decode cX7_judge 34 = .ok (.ireturn, 1) := by decide +kernel
theorem dX7_judge_7 : decode cX7_judge 7 = .ok (.aload_n 0, 1) := by decide +kernel
theorem dX7_judge_8 : decode cX7_judge 8 = .ok (.ldc 68, 2) := by decide +kernel
theorem dX7_judge_10 : decode cX7_judge 10 = .ok (.invokevirtual 69, 3) := by decide +kernel
theorem dX7_judge_13 : decode cX7_judge 13 = .ok (.ireturn, 1) := by decide +kernel
theorem dX7_sparks_0 : decode cX7_sparks 0 = .ok (.iload_n 1, 1) := by decide +kernel
theorem dX7_sparks_1 : decode cX7_sparks 1 = .ok (.invokestatic 225, 3) := by decide +kernel
theorem dX7_sparks_4 : decode cX7_sparks 4 = .ok (.ifCond .eq 12, 3) := by decide +kernel
theorem dX7_sparks_7 : decode cX7_sparks 7 = .ok (.iload_n 2, 1) := by decide +kernel
theorem dX7_sparks_8 : decode cX7_sparks 8 = .ok (.iconst 0, 1) := by decide +kernel
theorem dX7_sparks_9 : decode cX7_sparks 9 = .ok (.iconst 1, 1) := by decide +kernel
theorem dX7_sparks_10 : decode cX7_sparks 10 = .ok (.invokestatic 60, 3) := by decide +kernel
theorem dX7_sparks_13 : decode cX7_sparks 13 = .ok (.ifCond .ne 10, 3) := by decide +kernel
theorem dX7_sparks_23 : decode cX7_sparks 23 = .ok (.aload_n 0, 1) := by decide +kernel
theorem dX7_sparks_24 : decode cX7_sparks 24 = .ok (.getfield 51, 3) := by decide +kernel
theorem dX7_sparks_27 : decode cX7_sparks 27 = .ok (.iload_n 1, 1) := by decide +kernel
theorem dX7_sparks_28 : decode cX7_sparks 28 = .ok (.aaload, 1) := by decide +kernel
theorem dX7_sparks_29 : decode cX7_sparks 29 = .ok (.astore_n 3, 1) := by decide +kernel
theorem dX7_sparks_30 : decode cX7_sparks 30 = .ok (.aload_n 3, 1) := by decide +kernel
theorem dX7_sparks_31 : decode cX7_sparks 31 = .ok (.invokevirtual 228, 3) := by decide +kernel
theorem dX7_sparks_34 : decode cX7_sparks 34 = .ok (.ifCond .ne 20, 3) := by decide +kernel
theorem dX7_sparks_54 : decode cX7_sparks 54 = .ok (.aload_n 0, 1) := by decide +kernel
theorem dX7_sparks_55 : decode cX7_sparks 55 = .ok (.ldc 197, 2) := by decide +kernel
theorem dX7_sparks_57 : decode cX7_sparks 57 = .ok (.invokevirtual 69, 3) := by decide +kernel
theorem dX7_sparks_60 : decode cX7_sparks 60 = .ok (.ireturn, 1) := by decide +kernel
theorem dX7_sparks_16 : decode cX7_sparks 16 = .ok (.aload_n 0, 1) := by decide +kernel
theorem dX7_sparks_17 : decode cX7_sparks 17 = .ok (.ldc 68, 2) := by decide +kernel
theorem dX7_sparks_19 : decode cX7_sparks 19 = .ok (.invokevirtual 69, 3) := by decide +kernel
theorem dX7_sparks_22 : decode cX7_sparks 22 = .ok (.ireturn, 1) := by decide +kernel
theorem dX7_move_0 : decode cX7_move 0 = .ok (.iload_n 1, 1) := by decide +kernel
theorem dX7_move_1 : decode cX7_move 1 = .ok (.invokestatic 225, 3) := by decide +kernel
theorem dX7_move_4 : decode cX7_move 4 = .ok (.ifCond .eq 10, 3) := by decide +kernel
theorem dX7_move_7 : decode cX7_move 7 = .ok (.iload_n 3, 1) := by decide +kernel
theorem dX7_move_8 : decode cX7_move 8 = .ok (.invokestatic 225, 3) := by decide +kernel
theorem dX7_move_11 : decode cX7_move 11 = .ok (.ifCond .ne 10, 3) := by decide +kernel
theorem dX7_move_21 : decode cX7_move 21 = .ok (.aload_n 0, 1) := by decide +kernel
theorem dX7_move_22 : decode cX7_move 22 = .ok (.getfield 51, 3) := by decide +kernel
theorem dX7_move_25 : decode cX7_move 25 = .ok (.iload_n 1, 1) := by decide +kernel
theorem dX7_move_26 : decode cX7_move 26 = .ok (.aaload, 1) := by decide +kernel
theorem dX7_move_27 : decode cX7_move 27 = .ok (.astore 6, 2) := by decide +kernel
theorem dX7_move_29 : decode cX7_move 29 = .ok (.aload_n 0, 1) := by decide +kernel
theorem dX7_move_30 : decode cX7_move 30 = .ok (.getfield 51, 3) := by decide +kernel
theorem dX7_move_33 : decode cX7_move 33 = .ok (.iload_n 3, 1) := by decide +kernel
theorem dX7_move_34 : decode cX7_move 34 = .ok (.aaload, 1) := by decide +kernel
theorem dX7_move_35 : decode cX7_move 35 = .ok (.astore 7, 2) := by decide +kernel
theorem dX7_move_37 : decode cX7_move 37 = .ok (.aload 6, 2) := by decide +kernel
theorem dX7_move_39 : decode cX7_move 39 = .ok (.invokevirtual 228, 3) := by decide +kernel
theorem dX7_move_42 : decode cX7_move 42 = .ok (.ifCond .ne 11, 3) := by decide +kernel
theorem dX7_move_53 : decode cX7_move 53 = .ok (.aload_n 0, 1) := by decide +kernel
theorem dX7_move_54 : decode cX7_move 54 = .ok (.ldc 197, 2) := by decide +kernel
theorem dX7_move_56 : decode cX7_move 56 = .ok (.invokevirtual 69, 3) := by decide +kernel
theorem dX7_move_59 : decode cX7_move 59 = .ok (.ireturn, 1) := by decide +kernel
theorem dX7_move_14 : decode cX7_move 14 = .ok (.aload_n 0, 1) := by decide +kernel
theorem dX7_move_15 : decode cX7_move 15 = .ok (.ldc 68, 2) := by decide +kernel
theorem dX7_move_17 : decode cX7_move 17 = .ok (.invokevirtual 69, 3) := by decide +kernel
theorem dX7_move_20 : decode cX7_move 20 = .ok (.ireturn, 1) := by decide +kernel
theorem dX3_lay_0 : decode cX3_lay 0 = .ok (.aload_n 0, 1) := by decide +kernel
theorem dX3_lay_1 : decode cX3_lay 1 = .ok (.iload_n 1, 1) := by decide +kernel
theorem dX3_lay_2 : decode cX3_lay 2 = .ok (.putfield 15, 3) := by decide +kernel
theorem dX3_lay_5 : decode cX3_lay 5 = .ok (.aload_n 0, 1) := by decide +kernel
theorem dX3_lay_6 : decode cX3_lay 6 = .ok (.iload_n 2, 1) := by decide +kernel
theorem dX3_lay_7 : decode cX3_lay 7 = .ok (.putfield 19, 3) := by decide +kernel
theorem dX3_lay_10 : decode cX3_lay 10 = .ok (.iconst 0, 1) := by decide +kernel
theorem dX3_lay_11 : decode cX3_lay 11 = .ok (.istore_n 3, 1) := by decide +kernel
theorem dX3_lay_12 : decode cX3_lay 12 = .ok (.iload_n 3, 1) := by decide +kernel
theorem dX3_lay_13 : decode cX3_lay 13 = .ok (.bipush 40, 2) := by decide +kernel
theorem dX3_lay_15 : decode cX3_lay 15 = .ok (.if_icmp .ge 16, 3) := by decide +kernel
theorem dX3_lay_31 : decode cX3_lay 31 = .ok (.return_, 1) := by decide +kernel
theorem dX3_lay_18 : decode cX3_lay 18 = .ok (.aload_n 0, 1) := by decide +kernel
theorem dX3_lay_19 : decode cX3_lay 19 = .ok (.getfield 9, 3) := by decide +kernel
theorem dX3_lay_22 : decode cX3_lay 22 = .ok (.iload_n 3, 1) := by decide +kernel
theorem dX3_lay_23 : decode cX3_lay 23 = .ok (.iconst 0, 1) := by decide +kernel
theorem dX3_lay_24 : decode cX3_lay 24 = .ok (.iastore, 1) := by decide +kernel
theorem dX3_lay_25 : decode cX3_lay 25 = .ok (.iinc 3 1, 3) := by decide +kernel
theorem dX3_lay_28 : decode cX3_lay 28 = .ok (.goto (-16), 3) := by decide +kernel
theorem dX7_sheet_0 : decode cX7_sheet 0 = .ok (.iload_n 1, 1) := by decide +kernel
theorem dX7_sheet_1 : decode cX7_sheet 1 = .ok (.invokestatic 225, 3) := by decide +kernel
theorem dX7_sheet_4 : decode cX7_sheet 4 = .ok (.ifCond .eq 25, 3) := by decide +kernel
theorem dX7_sheet_7 : decode cX7_sheet 7 = .ok (.iload_n 2, 1) := by decide +kernel
theorem dX7_sheet_8 : decode cX7_sheet 8 = .ok (.ifCond .eq 28, 3) := by decide +kernel
theorem dX7_sheet_36 : decode cX7_sheet 36 = .ok (.iload_n 2, 1) := by decide +kernel
theorem dX7_sheet_37 : decode cX7_sheet 37 = .ok (.ifCond .eq 14, 3) := by decide +kernel
theorem dX7_sheet_51 : decode cX7_sheet 51 = .ok (.iload_n 2, 1) := by decide +kernel
theorem dX7_sheet_52 : decode cX7_sheet 52 = .ok (.ifCond .eq 16, 3) := by decide +kernel
theorem dX7_sheet_68 : decode cX7_sheet 68 = .ok (.aload_n 0, 1) := by decide +kernel
theorem dX7_sheet_69 : decode cX7_sheet 69 = .ok (.getfield 51, 3) := by decide +kernel
theorem dX7_sheet_72 : decode cX7_sheet 72 = .ok (.iload_n 1, 1) := by decide +kernel
theorem dX7_sheet_73 : decode cX7_sheet 73 = .ok (.aaload, 1) := by decide +kernel
theorem dX7_sheet_74 : decode cX7_sheet 74 = .ok (.iload_n 2, 1) := by decide +kernel
theorem dX7_sheet_75 : decode cX7_sheet 75 = .ok (.iload_n 2, 1) := by decide +kernel
theorem dX7_sheet_76 : decode cX7_sheet 76 = .ok (.ifCond .ne 7, 3) := by decide +kernel
theorem dX7_sheet_79 : decode cX7_sheet 79 = .ok (.iconst 0, 1) := by decide +kernel
theorem dX7_sheet_80 : decode cX7_sheet 80 = .ok (.goto 4, 3) := by decide +kernel
theorem dX7_sheet_84 : decode cX7_sheet 84 = .ok (.invokevirtual 271, 3) := by decide +kernel
theorem dX7_sheet_87 : decode cX7_sheet 87 = .ok (.iconst 1, 1) := by decide +kernel
theorem dX7_sheet_88 : decode cX7_sheet 88 = .ok (.ireturn, 1) := by decide +kernel
theorem dX7_sheet_11 : decode cX7_sheet 11 = .ok (.iload_n 2, 1) := by decide +kernel
theorem dX7_sheet_12 : decode cX7_sheet 12 = .ok (.bipush 8, 2) := by decide +kernel
theorem dX7_sheet_14 : decode cX7_sheet 14 = .ok (.if_icmp .eq 22, 3) := by decide +kernel
theorem dX7_sheet_40 : decode cX7_sheet 40 = .ok (.iload_n 3, 1) := by decide +kernel
theorem dX7_sheet_41 : decode cX7_sheet 41 = .ok (.ifCond .ge 10, 3) := by decide +kernel
theorem dX7_sheet_55 : decode cX7_sheet 55 = .ok (.iload_n 3, 1) := by decide +kernel
theorem dX7_sheet_56 : decode cX7_sheet 56 = .ok (.bipush 40, 2) := by decide +kernel
theorem dX7_sheet_58 : decode cX7_sheet 58 = .ok (.if_icmp .le 10, 3) := by decide +kernel
theorem dX7_sheet_83 : decode cX7_sheet 83 = .ok (.iload_n 3, 1) := by decide +kernel
theorem dX7_sheet_61 : decode cX7_sheet 61 = .ok (.aload_n 0, 1) := by decide +kernel
theorem dX7_sheet_62 : decode cX7_sheet 62 = .ok (.ldc 68, 2) := by decide +kernel
theorem dX7_sheet_64 : decode cX7_sheet 64 = .ok (.invokevirtual 69, 3) := by decide +kernel
theorem dX7_sheet_67 : decode cX7_sheet 67 = .ok (.ireturn, 1) := by decide +kernel
theorem dX7_sheet_44 : decode cX7_sheet 44 = .ok (.aload_n 0, 1) := by decide +kernel
theorem dX7_sheet_45 : decode cX7_sheet 45 = .ok (.ldc 177, 2) := by decide +kernel
theorem dX7_sheet_47 : decode cX7_sheet 47 = .ok (.invokevirtual 69, 3) := by decide +kernel
theorem dX7_sheet_50 : decode cX7_sheet 50 = .ok (.ireturn, 1) := by decide +kernel
theorem dX7_sheet_17 : decode cX7_sheet 17 = .ok (.iload_n 2, 1) := by decide +kernel
theorem dX7_sheet_18 : decode cX7_sheet 18 = .ok (.bipush 16, 2) := by decide +kernel
theorem dX7_sheet_20 : decode cX7_sheet 20 = .ok (.if_icmp .eq 16, 3) := by decide +kernel
theorem dX7_sheet_23 : decode cX7_sheet 23 = .ok (.iload_n 2, 1) := by decide +kernel
theorem dX7_sheet_24 : decode cX7_sheet 24 = .ok (.bipush 32, 2) := by decide +kernel
theorem dX7_sheet_26 : decode cX7_sheet 26 = .ok (.if_icmp .eq 10, 3) := by decide +kernel
theorem dX7_sheet_29 : decode cX7_sheet 29 = .ok (.aload_n 0, 1) := by decide +kernel
theorem dX7_sheet_30 : decode cX7_sheet 30 = .ok (.ldc 68, 2) := by decide +kernel
theorem dX7_sheet_32 : decode cX7_sheet 32 = .ok (.invokevirtual 69, 3) := by decide +kernel
theorem dX7_sheet_35 : decode cX7_sheet 35 = .ok (.ireturn, 1) := by decide +kernel
theorem dX7_feed_0 : decode cX7_feed 0 = .ok (.iload_n 3, 1) := by decide +kernel
theorem dX7_feed_1 : decode cX7_feed 1 = .ok (.iconst 1, 1) := by decide +kernel
theorem dX7_feed_2 : decode cX7_feed 2 = .ok (.bipush 8, 2) := by decide +kernel
theorem dX7_feed_4 : decode cX7_feed 4 = .ok (.invokestatic 60, 3) := by decide +kernel
theorem dX7_feed_7 : decode cX7_feed 7 = .ok (.ifCond .ne 10, 3) := by decide +kernel
theorem dX7_feed_17 : decode cX7_feed 17 = .ok (.aload_n 0, 1) := by decide +kernel
theorem dX7_feed_18 : decode cX7_feed 18 = .ok (.getfield 12, 3) := by decide +kernel
theorem dX7_feed_21 : decode cX7_feed 21 = .ok (.getfield 147, 3) := by decide +kernel
theorem dX7_feed_24 : decode cX7_feed 24 = .ok (.iload_n 3, 1) := by decide +kernel
theorem dX7_feed_25 : decode cX7_feed 25 = .ok (.iadd, 1) := by decide +kernel
theorem dX7_feed_26 : decode cX7_feed 26 = .ok (.bipush 50, 2) := by decide +kernel
theorem dX7_feed_28 : decode cX7_feed 28 = .ok (.if_icmp .le 10, 3) := by decide +kernel
theorem dX7_feed_38 : decode cX7_feed 38 = .ok (.iconst 0, 1) := by decide +kernel
theorem dX7_feed_39 : decode cX7_feed 39 = .ok (.istore 4, 2) := by decide +kernel
theorem dX7_feed_41 : decode cX7_feed 41 = .ok (.iload 4, 2) := by decide +kernel
theorem dX7_feed_43 : decode cX7_feed 43 = .ok (.iload_n 3, 1) := by decide +kernel
theorem dX7_feed_44 : decode cX7_feed 44 = .ok (.if_icmp .ge 39, 3) := by decide +kernel
theorem dX7_feed_83 : decode cX7_feed 83 = .ok (.aload_n 0, 1) := by decide +kernel
theorem dX7_feed_84 : decode cX7_feed 84 = .ok (.getfield 12, 3) := by decide +kernel
theorem dX7_feed_87 : decode cX7_feed 87 = .ok (.dup, 1) := by decide +kernel
theorem dX7_feed_88 : decode cX7_feed 88 = .ok (.getfield 147, 3) := by decide +kernel
theorem dX7_feed_91 : decode cX7_feed 91 = .ok (.iload_n 3, 1) := by decide +kernel
theorem dX7_feed_92 : decode cX7_feed 92 = .ok (.iadd, 1) := by decide +kernel
theorem dX7_feed_93 : decode cX7_feed 93 = .ok (.putfield 147, 3) := by decide +kernel
theorem dX7_feed_96 : decode cX7_feed 96 = .ok (.aload_n 0, 1) := by decide +kernel
theorem dX7_feed_97 : decode cX7_feed 97 = .ok (.getfield 12, 3) := by decide +kernel
theorem dX7_feed_100 : decode cX7_feed 100 = .ok (.getfield 147, 3) := by decide +kernel
theorem dX7_feed_103 : decode cX7_feed 103 = .ok (.ireturn, 1) := by decide +kernel
theorem dX7_feed_47 : decode cX7_feed 47 = .ok (.aload_n 0, 1) := by decide +kernel
theorem dX7_feed_48 : decode cX7_feed 48 = .ok (.getfield 12, 3) := by decide +kernel
theorem dX7_feed_51 : decode cX7_feed 51 = .ok (.getfield 150, 3) := by decide +kernel
theorem dX7_feed_54 : decode cX7_feed 54 = .ok (.aload_n 0, 1) := by decide +kernel
theorem dX7_feed_55 : decode cX7_feed 55 = .ok (.getfield 12, 3) := by decide +kernel
theorem dX7_feed_58 : decode cX7_feed 58 = .ok (.getfield 147, 3) := by decide +kernel
theorem dX7_feed_61 : decode cX7_feed 61 = .ok (.iload 4, 2) := by decide +kernel
theorem dX7_feed_63 : decode cX7_feed 63 = .ok (.iadd, 1) := by decide +kernel
theorem dX7_feed_64 : decode cX7_feed 64 = .ok (.lload_n 1, 1) := by decide +kernel
theorem dX7_feed_65 : decode cX7_feed 65 = .ok (.bipush 8, 2) := by decide +kernel
theorem dX7_feed_67 : decode cX7_feed 67 = .ok (.iload 4, 2) := by decide +kernel
theorem dX7_feed_69 : decode cX7_feed 69 = .ok (.imul, 1) := by decide +kernel
theorem dX7_feed_70 : decode cX7_feed 70 = .ok (.lushr, 1) := by decide +kernel
theorem dX7_feed_71 : decode cX7_feed 71 = .ok (.l2i, 1) := by decide +kernel
theorem dX7_feed_72 : decode cX7_feed 72 = .ok (.sipush 255, 3) := by decide +kernel
theorem dX7_feed_75 : decode cX7_feed 75 = .ok (.iand, 1) := by decide +kernel
theorem dX7_feed_76 : decode cX7_feed 76 = .ok (.iastore, 1) := by decide +kernel
theorem dX7_feed_77 : decode cX7_feed 77 = .ok (.iinc 4 1, 3) := by decide +kernel
theorem dX7_feed_80 : decode cX7_feed 80 = .ok (.goto (-39), 3) := by decide +kernel
theorem dX7_feed_10 : decode cX7_feed 10 = .ok (.aload_n 0, 1) := by decide +kernel
theorem dX7_feed_11 : decode cX7_feed 11 = .ok (.ldc 68, 2) := by decide +kernel
theorem dX7_feed_13 : decode cX7_feed 13 = .ok (.invokevirtual 69, 3) := by decide +kernel
theorem dX7_feed_16 : decode cX7_feed 16 = .ok (.ireturn, 1) := by decide +kernel
theorem dX6_textOf_0 : decode cX6_textOf 0 = .ok (.iload_n 1, 1) := by decide +kernel
theorem dX6_textOf_1 : decode cX6_textOf 1 = .ok (.ifCond .ne 10, 3) := by decide +kernel
theorem dX6_textOf_11 : decode cX6_textOf 11 = .ok (.aload_n 0, 1) := by decide +kernel
theorem dX6_textOf_12 : decode cX6_textOf 12 = .ok (.getfield 18, 3) := by decide +kernel
theorem dX6_textOf_15 : decode cX6_textOf 15 = .ok (.areturn, 1) := by decide +kernel
theorem dX6_textOf_4 : decode cX6_textOf 4 = .ok (.aload_n 0, 1) := by decide +kernel
theorem dX6_textOf_5 : decode cX6_textOf 5 = .ok (.getfield 12, 3) := by decide +kernel
theorem dX6_textOf_8 : decode cX6_textOf 8 = .ok (.goto 7, 3) := by decide +kernel
theorem dX4_gives_0 : decode cX4_gives 0 = .ok (.aload_n 0, 1) := by decide +kernel
theorem dX4_gives_1 : decode cX4_gives 1 = .ok (.getfield 28, 3) := by decide +kernel
theorem dX4_gives_4 : decode cX4_gives 4 = .ok (.ifCond .le 13, 3) := by decide +kernel
theorem dX4_gives_17 : decode cX4_gives 17 = .ok (.aload_n 0, 1) := by decide +kernel
theorem dX4_gives_18 : decode cX4_gives 18 = .ok (.getfield 24, 3) := by decide +kernel
theorem dX4_gives_21 : decode cX4_gives 21 = .ok (.ifCond .ne 8, 3) := by decide +kernel
theorem dX4_gives_24 : decode cX4_gives 24 = .ok (.bipush 20, 2) := by decide +kernel
theorem dX4_gives_26 : decode cX4_gives 26 = .ok (.goto 10, 3) := by decide +kernel
theorem dX4_gives_36 : decode cX4_gives 36 = .ok (.istore 4, 2) := by decide +kernel
theorem dX4_gives_38 : decode cX4_gives 38 = .ok (.iconst 0, 1) := by decide +kernel
theorem dX4_gives_39 : decode cX4_gives 39 = .ok (.bipush 99, 2) := by decide +kernel
theorem dX4_gives_41 : decode cX4_gives 41 = .ok (.iload 4, 2) := by decide +kernel
theorem dX4_gives_43 : decode cX4_gives 43 = .ok (.invokestatic 41, 3) := by decide +kernel
theorem dX4_gives_46 : decode cX4_gives 46 = .ok (.invokestatic 47, 3) := by decide +kernel
theorem dX4_gives_49 : decode cX4_gives 49 = .ok (.ireturn, 1) := by decide +kernel
theorem dX4_gives_29 : decode cX4_gives 29 = .ok (.bipush 9, 2) := by decide +kernel
theorem dX4_gives_31 : decode cX4_gives 31 = .ok (.iload_n 1, 1) := by decide +kernel
theorem dX4_gives_32 : decode cX4_gives 32 = .ok (.bipush 11, 2) := by decide +kernel
theorem dX4_gives_34 : decode cX4_gives 34 = .ok (.idiv, 1) := by decide +kernel
theorem dX4_gives_35 : decode cX4_gives 35 = .ok (.isub, 1) := by decide +kernel
theorem dX7_law_0 : decode cX7_law 0 = .ok (.iload_n 1, 1) := by decide +kernel
theorem dX7_law_1 : decode cX7_law 1 = .ok (.iconst 0, 1) := by decide +kernel
theorem dX7_law_2 : decode cX7_law 2 = .ok (.iconst 1, 1) := by decide +kernel
theorem dX7_law_3 : decode cX7_law 3 = .ok (.invokestatic 60, 3) := by decide +kernel
theorem dX7_law_6 : decode cX7_law 6 = .ok (.ifCond .ne 10, 3) := by decide +kernel
theorem dX7_law_16 : decode cX7_law 16 = .ok (.aload_n 0, 1) := by decide +kernel
theorem dX7_law_17 : decode cX7_law 17 = .ok (.getfield 12, 3) := by decide +kernel
theorem dX7_law_20 : decode cX7_law 20 = .ok (.iload_n 1, 1) := by decide +kernel
theorem dX7_law_21 : decode cX7_law 21 = .ok (.invokevirtual 157, 3) := by decide +kernel
theorem dX7_law_24 : decode cX7_law 24 = .ok (.iload_n 2, 1) := by decide +kernel
theorem dX7_law_25 : decode cX7_law 25 = .ok (.iload_n 3, 1) := by decide +kernel
theorem dX7_law_26 : decode cX7_law 26 = .ok (.iload 4, 2) := by decide +kernel
theorem dX7_law_28 : decode cX7_law 28 = .ok (.invokevirtual 170, 3) := by decide +kernel
theorem dX7_law_31 : decode cX7_law 31 = .ok (.ireturn, 1) := by decide +kernel
theorem dX7_law_9 : decode cX7_law 9 = .ok (.aload_n 0, 1) := by decide +kernel
theorem dX7_law_10 : decode cX7_law 10 = .ok (.ldc 68, 2) := by decide +kernel
theorem dX7_law_12 : decode cX7_law 12 = .ok (.invokevirtual 69, 3) := by decide +kernel
theorem dX7_law_15 : decode cX7_law 15 = .ok (.ireturn, 1) := by decide +kernel
theorem dX2_next_0 : decode cX2_next 0 = .ok (.aload_n 0, 1) := by decide +kernel
theorem dX2_next_1 : decode cX2_next 1 = .ok (.getfield 38, 3) := by decide +kernel
theorem dX2_next_4 : decode cX2_next 4 = .ok (.aload_n 0, 1) := by decide +kernel
theorem dX2_next_5 : decode cX2_next 5 = .ok (.getfield 28, 3) := by decide +kernel
theorem dX2_next_8 : decode cX2_next 8 = .ok (.if_icmp .ge 15, 3) := by decide +kernel
theorem dX2_next_23 : decode cX2_next 23 = .ok (.iconst (-1), 1) := by decide +kernel
theorem dX2_next_24 : decode cX2_next 24 = .ok (.ireturn, 1) := by decide +kernel
theorem dX2_isDigit_0 : decode cX2_isDigit 0 = .ok (.iload_n 0, 1) := by decide +kernel
theorem dX2_isDigit_1 : decode cX2_isDigit 1 = .ok (.bipush 48, 2) := by decide +kernel
theorem dX2_isDigit_3 : decode cX2_isDigit 3 = .ok (.bipush 57, 2) := by decide +kernel
theorem dX2_isDigit_5 : decode cX2_isDigit 5 = .ok (.invokestatic 88, 3) := by decide +kernel
theorem dX2_isDigit_8 : decode cX2_isDigit 8 = .ok (.ireturn, 1) := by decide +kernel
theorem dX2_nameOf_0 : decode cX2_nameOf 0 = .ok (.iload_n 1, 1) := by decide +kernel
theorem dX2_nameOf_1 : decode cX2_nameOf 1 = .ok (.bipush 101, 2) := by decide +kernel
theorem dX2_nameOf_3 : decode cX2_nameOf 3 = .ok (.if_icmp .ne 5, 3) := by decide +kernel
theorem dX2_nameOf_8 : decode cX2_nameOf 8 = .ok (.iload_n 1, 1) := by decide +kernel
theorem dX2_nameOf_9 : decode cX2_nameOf 9 = .ok (.bipush 97, 2) := by decide +kernel
theorem dX2_nameOf_11 : decode cX2_nameOf 11 = .ok (.if_icmp .ne 5, 3) := by decide +kernel
theorem dX2_nameOf_16 : decode cX2_nameOf 16 = .ok (.iload_n 1, 1) := by decide +kernel
theorem dX2_nameOf_17 : decode cX2_nameOf 17 = .ok (.aload_n 0, 1) := by decide +kernel
theorem dX2_nameOf_18 : decode cX2_nameOf 18 = .ok (.getfield 12, 3) := by decide +kernel
theorem dX2_nameOf_21 : decode cX2_nameOf 21 = .ok (.getfield 85, 3) := by decide +kernel
theorem dX2_nameOf_24 : decode cX2_nameOf 24 = .ok (.ifCond .ne 8, 3) := by decide +kernel
theorem dX2_nameOf_32 : decode cX2_nameOf 32 = .ok (.bipush 109, 2) := by decide +kernel
theorem dX2_nameOf_34 : decode cX2_nameOf 34 = .ok (.if_icmp .ne 7, 3) := by decide +kernel
theorem dX2_nameOf_41 : decode cX2_nameOf 41 = .ok (.iconst (-1), 1) := by decide +kernel
theorem dX2_nameOf_42 : decode cX2_nameOf 42 = .ok (.ireturn, 1) := by decide +kernel
theorem dX2_nameOf_27 : decode cX2_nameOf 27 = .ok (.bipush 100, 2) := by decide +kernel
theorem dX2_nameOf_29 : decode cX2_nameOf 29 = .ok (.goto 5, 3) := by decide +kernel
theorem dX2_stop_0 : decode cX2_stop 0 = .ok (.aload_n 0, 1) := by decide +kernel
theorem dX2_stop_1 : decode cX2_stop 1 = .ok (.getfield 41, 3) := by decide +kernel
theorem dX2_stop_4 : decode cX2_stop 4 = .ok (.ifCond .ge 11, 3) := by decide +kernel
theorem dX2_stop_7 : decode cX2_stop 7 = .ok (.aload_n 0, 1) := by decide +kernel
theorem dX2_stop_8 : decode cX2_stop 8 = .ok (.aload_n 0, 1) := by decide +kernel
theorem dX2_stop_9 : decode cX2_stop 9 = .ok (.getfield 38, 3) := by decide +kernel
theorem dX2_stop_12 : decode cX2_stop 12 = .ok (.putfield 41, 3) := by decide +kernel
theorem dX2_stop_15 : decode cX2_stop 15 = .ok (.iconst 0, 1) := by decide +kernel
theorem dX2_stop_16 : decode cX2_stop 16 = .ok (.ireturn, 1) := by decide +kernel
theorem dX2_readInnermost_0 : decode cX2_readInnermost 0 = .ok (.aload_n 0, 1) := by decide +kernel
theorem dX2_readInnermost_1 : decode cX2_readInnermost 1 = .ok (.invokevirtual 55, 3) := by decide +kernel
theorem dX2_readInnermost_4 : decode cX2_readInnermost 4 = .ok (.istore_n 2, 1) := by decide +kernel
theorem dX2_readInnermost_5 : decode cX2_readInnermost 5 = .ok (.iload_n 2, 1) := by decide +kernel
theorem dX2_readInnermost_6 : decode cX2_readInnermost 6 = .ok (.invokestatic 66, 3) := by decide +kernel
theorem dX2_readInnermost_9 : decode cX2_readInnermost 9 = .ok (.ifCond .eq 8, 3) := by decide +kernel
theorem dX2_readInnermost_17 : decode cX2_readInnermost 17 = .ok (.aload_n 0, 1) := by decide +kernel
theorem dX2_readInnermost_18 : decode cX2_readInnermost 18 = .ok (.iload_n 2, 1) := by decide +kernel
theorem dX2_readInnermost_19 : decode cX2_readInnermost 19 = .ok (.invokevirtual 73, 3) := by decide +kernel
theorem dX2_readInnermost_22 : decode cX2_readInnermost 22 = .ok (.ifCond .lt 29, 3) := by decide +kernel
theorem dX2_readInnermost_51 : decode cX2_readInnermost 51 = .ok (.iload_n 2, 1) := by decide +kernel
theorem dX2_readInnermost_52 : decode cX2_readInnermost 52 = .ok (.bipush 33, 2) := by decide +kernel
theorem dX2_readInnermost_54 : decode cX2_readInnermost 54 = .ok (.if_icmp .eq 9, 3) := by decide +kernel
theorem dX2_readInnermost_57 : decode cX2_readInnermost 57 = .ok (.iload_n 2, 1) := by decide +kernel
theorem dX2_readInnermost_58 : decode cX2_readInnermost 58 = .ok (.bipush 40, 2) := by decide +kernel
theorem dX2_readInnermost_60 : decode cX2_readInnermost 60 = .ok (.if_icmp .ne 42, 3) := by decide +kernel
theorem dX2_readInnermost_102 : decode cX2_readInnermost 102 = .ok (.aload_n 0, 1) := by decide +kernel
theorem dX2_readInnermost_103 : decode cX2_readInnermost 103 = .ok (.invokevirtual 82, 3) := by decide +kernel
theorem dX2_readInnermost_106 : decode cX2_readInnermost 106 = .ok (.ireturn, 1) := by decide +kernel
theorem dX2_readLevel_0 : decode cX2_readLevel 0 = .ok (.iload_n 1, 1) := by decide +kernel
theorem dX2_readLevel_1 : decode cX2_readLevel 1 = .ok (.iconst 5, 1) := by decide +kernel
theorem dX2_readLevel_2 : decode cX2_readLevel 2 = .ok (.if_icmp .lt 9, 3) := by decide +kernel
theorem dX2_readLevel_5 : decode cX2_readLevel 5 = .ok (.aload_n 0, 1) := by decide +kernel
theorem dX2_readLevel_6 : decode cX2_readLevel 6 = .ok (.iload_n 2, 1) := by decide +kernel
theorem dX2_readLevel_7 : decode cX2_readLevel 7 = .ok (.invokevirtual 51, 3) := by decide +kernel
theorem dX2_readLevel_10 : decode cX2_readLevel 10 = .ok (.ireturn, 1) := by decide +kernel
theorem dX2_readLevel_11 : decode cX2_readLevel 11 = .ok (.aload_n 0, 1) := by decide +kernel
theorem dX2_readLevel_12 : decode cX2_readLevel 12 = .ok (.iload_n 1, 1) := by decide +kernel
theorem dX2_readLevel_13 : decode cX2_readLevel 13 = .ok (.iconst 1, 1) := by decide +kernel
theorem dX2_readLevel_14 : decode cX2_readLevel 14 = .ok (.iadd, 1) := by decide +kernel
theorem dX2_readLevel_15 : decode cX2_readLevel 15 = .ok (.iload_n 2, 1) := by decide +kernel
theorem dX2_readLevel_16 : decode cX2_readLevel 16 = .ok (.invokevirtual 48, 3) := by decide +kernel
theorem dX2_readLevel_19 : decode cX2_readLevel 19 = .ok (.istore_n 3, 1) := by decide +kernel
theorem dX2_readLevel_20 : decode cX2_readLevel 20 = .ok (.iload_n 1, 1) := by decide +kernel
theorem dX2_readLevel_21 : decode cX2_readLevel 21 = .ok (.iconst 2, 1) := by decide +kernel
theorem dX2_readLevel_22 : decode cX2_readLevel 22 = .ok (.if_icmp .ne 7, 3) := by decide +kernel
theorem dX2_readLevel_29 : decode cX2_readLevel 29 = .ok (.bipush 50, 2) := by decide +kernel
theorem dX2_readLevel_31 : decode cX2_readLevel 31 = .ok (.istore 4, 2) := by decide +kernel
theorem dX2_readLevel_33 : decode cX2_readLevel 33 = .ok (.iconst 0, 1) := by decide +kernel
theorem dX2_readLevel_34 : decode cX2_readLevel 34 = .ok (.istore 5, 2) := by decide +kernel
theorem dX2_readLevel_36 : decode cX2_readLevel 36 = .ok (.iload 5, 2) := by decide +kernel
theorem dX2_readLevel_38 : decode cX2_readLevel 38 = .ok (.iload 4, 2) := by decide +kernel
theorem dX2_readLevel_40 : decode cX2_readLevel 40 = .ok (.if_icmp .ge 66, 3) := by decide +kernel
theorem dX2_readLevel_43 : decode cX2_readLevel 43 = .ok (.aload_n 0, 1) := by decide +kernel
theorem dX2_readLevel_44 : decode cX2_readLevel 44 = .ok (.getfield 41, 3) := by decide +kernel
theorem dX2_readLevel_47 : decode cX2_readLevel 47 = .ok (.ifCond .ge 59, 3) := by decide +kernel
theorem dX2_readLevel_106 : decode cX2_readLevel 106 = .ok (.iload_n 3, 1) := by decide +kernel
theorem dX2_readLevel_107 : decode cX2_readLevel 107 = .ok (.ireturn, 1) := by decide +kernel
theorem dX2_readLevel_25 : decode cX2_readLevel 25 = .ok (.iconst 1, 1) := by decide +kernel
theorem dX2_readLevel_26 : decode cX2_readLevel 26 = .ok (.goto 5, 3) := by decide +kernel
theorem dX4_clear_0 : decode cX4_clear 0 = .ok (.aload_n 0, 1) := by decide +kernel
theorem dX4_clear_1 : decode cX4_clear 1 = .ok (.iload_n 1, 1) := by decide +kernel
theorem dX4_clear_2 : decode cX4_clear 2 = .ok (.putfield 24, 3) := by decide +kernel
theorem dX4_clear_5 : decode cX4_clear 5 = .ok (.aload_n 0, 1) := by decide +kernel
theorem dX4_clear_6 : decode cX4_clear 6 = .ok (.iconst 0, 1) := by decide +kernel
theorem dX4_clear_7 : decode cX4_clear 7 = .ok (.putfield 28, 3) := by decide +kernel
theorem dX4_clear_10 : decode cX4_clear 10 = .ok (.return_, 1) := by decide +kernel
theorem dX2_read_0 : decode cX2_read 0 = .ok (.aload_n 0, 1) := by decide +kernel
theorem dX2_read_1 : decode cX2_read 1 = .ok (.iload_n 2, 1) := by decide +kernel
theorem dX2_read_2 : decode cX2_read 2 = .ok (.bipush 50, 2) := by decide +kernel
theorem dX2_read_4 : decode cX2_read 4 = .ok (.invokestatic 22, 3) := by decide +kernel
theorem dX2_read_7 : decode cX2_read 7 = .ok (.putfield 28, 3) := by decide +kernel
theorem dX2_read_10 : decode cX2_read 10 = .ok (.aload_n 1, 1) := by decide +kernel
theorem dX2_read_11 : decode cX2_read 11 = .ok (.iconst 0, 1) := by decide +kernel
theorem dX2_read_12 : decode cX2_read 12 = .ok (.aload_n 0, 1) := by decide +kernel
theorem dX2_read_13 : decode cX2_read 13 = .ok (.getfield 18, 3) := by decide +kernel
theorem dX2_read_16 : decode cX2_read 16 = .ok (.iconst 0, 1) := by decide +kernel
theorem dX2_read_17 : decode cX2_read 17 = .ok (.aload_n 0, 1) := by decide +kernel
theorem dX2_read_18 : decode cX2_read 18 = .ok (.getfield 28, 3) := by decide +kernel
theorem dX2_read_21 : decode cX2_read 21 = .ok (.invokestatic 32, 3) := by decide +kernel
theorem dX2_read_24 : decode cX2_read 24 = .ok (.aload_n 0, 1) := by decide +kernel
theorem dX2_read_25 : decode cX2_read 25 = .ok (.iconst 0, 1) := by decide +kernel
theorem dX2_read_26 : decode cX2_read 26 = .ok (.putfield 38, 3) := by decide +kernel
theorem dX2_read_29 : decode cX2_read 29 = .ok (.aload_n 0, 1) := by decide +kernel
theorem dX2_read_30 : decode cX2_read 30 = .ok (.iconst (-1), 1) := by decide +kernel
theorem dX2_read_31 : decode cX2_read 31 = .ok (.putfield 41, 3) := by decide +kernel
theorem dX2_read_34 : decode cX2_read 34 = .ok (.aload_n 0, 1) := by decide +kernel
theorem dX2_read_35 : decode cX2_read 35 = .ok (.getfield 12, 3) := by decide +kernel
theorem dX2_read_38 : decode cX2_read 38 = .ok (.iload_n 3, 1) := by decide +kernel
theorem dX2_read_39 : decode cX2_read 39 = .ok (.invokevirtual 44, 3) := by decide +kernel
theorem dX2_read_42 : decode cX2_read 42 = .ok (.aload_n 0, 1) := by decide +kernel
theorem dX2_read_43 : decode cX2_read 43 = .ok (.iconst 0, 1) := by decide +kernel
theorem dX2_read_44 : decode cX2_read 44 = .ok (.iconst 0, 1) := by decide +kernel
theorem dX2_read_45 : decode cX2_read 45 = .ok (.invokevirtual 48, 3) := by decide +kernel
theorem dX2_read_48 : decode cX2_read 48 = .ok (.pop, 1) := by decide +kernel
theorem dX2_read_49 : decode cX2_read 49 = .ok (.aload_n 0, 1) := by decide +kernel
theorem dX2_read_50 : decode cX2_read 50 = .ok (.getfield 41, 3) := by decide +kernel
theorem dX2_read_53 : decode cX2_read 53 = .ok (.ifCond .ge 22, 3) := by decide +kernel
theorem dX2_read_75 : decode cX2_read 75 = .ok (.aload_n 0, 1) := by decide +kernel
theorem dX2_read_76 : decode cX2_read 76 = .ok (.getfield 41, 3) := by decide +kernel
theorem dX2_read_79 : decode cX2_read 79 = .ok (.ireturn, 1) := by decide +kernel
theorem dX7_text_0 : decode cX7_text 0 = .ok (.iload_n 1, 1) := by decide +kernel
theorem dX7_text_1 : decode cX7_text 1 = .ok (.iconst 0, 1) := by decide +kernel
theorem dX7_text_2 : decode cX7_text 2 = .ok (.iconst 1, 1) := by decide +kernel
theorem dX7_text_3 : decode cX7_text 3 = .ok (.invokestatic 60, 3) := by decide +kernel
theorem dX7_text_6 : decode cX7_text 6 = .ok (.ifCond .ne 10, 3) := by decide +kernel
theorem dX7_text_16 : decode cX7_text 16 = .ok (.aload_n 0, 1) := by decide +kernel
theorem dX7_text_17 : decode cX7_text 17 = .ok (.getfield 38, 3) := by decide +kernel
theorem dX7_text_20 : decode cX7_text 20 = .ok (.aload_n 0, 1) := by decide +kernel
theorem dX7_text_21 : decode cX7_text 21 = .ok (.getfield 12, 3) := by decide +kernel
theorem dX7_text_24 : decode cX7_text 24 = .ok (.getfield 150, 3) := by decide +kernel
theorem dX7_text_27 : decode cX7_text 27 = .ok (.aload_n 0, 1) := by decide +kernel
theorem dX7_text_28 : decode cX7_text 28 = .ok (.getfield 12, 3) := by decide +kernel
theorem dX7_text_31 : decode cX7_text 31 = .ok (.getfield 147, 3) := by decide +kernel
theorem dX7_text_34 : decode cX7_text 34 = .ok (.iload_n 1, 1) := by decide +kernel
theorem dX7_text_35 : decode cX7_text 35 = .ok (.invokevirtual 153, 3) := by decide +kernel
theorem dX7_text_38 : decode cX7_text 38 = .ok (.istore_n 2, 1) := by decide +kernel
theorem dX7_text_39 : decode cX7_text 39 = .ok (.aload_n 0, 1) := by decide +kernel
theorem dX7_text_40 : decode cX7_text 40 = .ok (.getfield 12, 3) := by decide +kernel
theorem dX7_text_43 : decode cX7_text 43 = .ok (.iconst 0, 1) := by decide +kernel
theorem dX7_text_44 : decode cX7_text 44 = .ok (.putfield 147, 3) := by decide +kernel
theorem dX7_text_47 : decode cX7_text 47 = .ok (.iload_n 2, 1) := by decide +kernel
theorem dX7_text_48 : decode cX7_text 48 = .ok (.ifCond .lt 8, 3) := by decide +kernel
theorem dX7_text_51 : decode cX7_text 51 = .ok (.bipush (-10), 2) := by decide +kernel
theorem dX7_text_53 : decode cX7_text 53 = .ok (.iload_n 2, 1) := by decide +kernel
theorem dX7_text_54 : decode cX7_text 54 = .ok (.isub, 1) := by decide +kernel
theorem dX7_text_55 : decode cX7_text 55 = .ok (.ireturn, 1) := by decide +kernel
theorem dX7_text_9 : decode cX7_text 9 = .ok (.aload_n 0, 1) := by decide +kernel
theorem dX7_text_10 : decode cX7_text 10 = .ok (.ldc 68, 2) := by decide +kernel
theorem dX7_text_12 : decode cX7_text 12 = .ok (.invokevirtual 69, 3) := by decide +kernel
theorem dX7_text_15 : decode cX7_text 15 = .ok (.ireturn, 1) := by decide +kernel
theorem dX7_seed_0 : decode cX7_seed 0 = .ok (.aload_n 0, 1) := by decide +kernel
theorem dX7_seed_1 : decode cX7_seed 1 = .ok (.getfield 12, 3) := by decide +kernel
theorem dX7_seed_4 : decode cX7_seed 4 = .ok (.getfield 255, 3) := by decide +kernel
theorem dX7_seed_7 : decode cX7_seed 7 = .ok (.istore_n 2, 1) := by decide +kernel
theorem dX7_seed_8 : decode cX7_seed 8 = .ok (.aload_n 0, 1) := by decide +kernel
theorem dX7_seed_9 : decode cX7_seed 9 = .ok (.getfield 12, 3) := by decide +kernel
theorem dX7_seed_12 : decode cX7_seed 12 = .ok (.iload_n 1, 1) := by decide +kernel
theorem dX7_seed_13 : decode cX7_seed 13 = .ok (.putfield 255, 3) := by decide +kernel
theorem dX7_seed_16 : decode cX7_seed 16 = .ok (.iload_n 2, 1) := by decide +kernel
theorem dX7_seed_17 : decode cX7_seed 17 = .ok (.ireturn, 1) := by decide +kernel
theorem dX7_trace_0 : decode cX7_trace 0 = .ok (.iload_n 1, 1) := by decide +kernel
theorem dX7_trace_1 : decode cX7_trace 1 = .ok (.iconst 0, 1) := by decide +kernel
theorem dX7_trace_2 : decode cX7_trace 2 = .ok (.aload_n 0, 1) := by decide +kernel
theorem dX7_trace_3 : decode cX7_trace 3 = .ok (.getfield 45, 3) := by decide +kernel
theorem dX7_trace_6 : decode cX7_trace 6 = .ok (.getfield 265, 3) := by decide +kernel
theorem dX7_trace_9 : decode cX7_trace 9 = .ok (.iconst 1, 1) := by decide +kernel
theorem dX7_trace_10 : decode cX7_trace 10 = .ok (.isub, 1) := by decide +kernel
theorem dX7_trace_11 : decode cX7_trace 11 = .ok (.invokestatic 60, 3) := by decide +kernel
theorem dX7_trace_14 : decode cX7_trace 14 = .ok (.ifCond .eq 15, 3) := by decide +kernel
theorem dX7_trace_29 : decode cX7_trace 29 = .ok (.aload_n 0, 1) := by decide +kernel
theorem dX7_trace_30 : decode cX7_trace 30 = .ok (.ldc 197, 2) := by decide +kernel
theorem dX7_trace_32 : decode cX7_trace 32 = .ok (.invokevirtual 69, 3) := by decide +kernel
theorem dX7_trace_35 : decode cX7_trace 35 = .ok (.ireturn, 1) := by decide +kernel
theorem dX7_restore_0 : decode cX7_restore 0 = .ok (.aload_n 0, 1) := by decide +kernel
theorem dX7_restore_1 : decode cX7_restore 1 = .ok (.getfield 301, 3) := by decide +kernel
theorem dX7_restore_4 : decode cX7_restore 4 = .ok (.ifCond .ne 10, 3) := by decide +kernel
theorem dX7_restore_7 : decode cX7_restore 7 = .ok (.aload_n 0, 1) := by decide +kernel
theorem dX7_restore_8 : decode cX7_restore 8 = .ok (.ldc 197, 2) := by decide +kernel
theorem dX7_restore_10 : decode cX7_restore 10 = .ok (.invokevirtual 69, 3) := by decide +kernel
theorem dX7_restore_13 : decode cX7_restore 13 = .ok (.ireturn, 1) := by decide +kernel
theorem dX7_tell_0 : decode cX7_tell 0 = .ok (.aload_n 0, 1) := by decide +kernel
theorem dX7_tell_1 : decode cX7_tell 1 = .ok (.getfield 12, 3) := by decide +kernel
theorem dX7_tell_4 : decode cX7_tell 4 = .ok (.getfield 304, 3) := by decide +kernel
theorem dX7_tell_7 : decode cX7_tell 7 = .ok (.bipush 20, 2) := by decide +kernel
theorem dX7_tell_9 : decode cX7_tell 9 = .ok (.if_icmp .lt 10, 3) := by decide +kernel
theorem dX7_tell_19 : decode cX7_tell 19 = .ok (.aload_n 0, 1) := by decide +kernel
theorem dX7_tell_20 : decode cX7_tell 20 = .ok (.getfield 12, 3) := by decide +kernel
theorem dX7_tell_23 : decode cX7_tell 23 = .ok (.getfield 307, 3) := by decide +kernel
theorem dX7_tell_26 : decode cX7_tell 26 = .ok (.aload_n 0, 1) := by decide +kernel
theorem dX7_tell_27 : decode cX7_tell 27 = .ok (.getfield 12, 3) := by decide +kernel
theorem dX7_tell_30 : decode cX7_tell 30 = .ok (.getfield 304, 3) := by decide +kernel
theorem dX7_tell_33 : decode cX7_tell 33 = .ok (.iload_n 1, 1) := by decide +kernel
theorem dX7_tell_34 : decode cX7_tell 34 = .ok (.iastore, 1) := by decide +kernel
theorem dX7_tell_35 : decode cX7_tell 35 = .ok (.aload_n 0, 1) := by decide +kernel
theorem dX7_tell_36 : decode cX7_tell 36 = .ok (.getfield 12, 3) := by decide +kernel
theorem dX7_tell_39 : decode cX7_tell 39 = .ok (.dup, 1) := by decide +kernel
theorem dX7_tell_40 : decode cX7_tell 40 = .ok (.getfield 304, 3) := by decide +kernel
theorem dX7_tell_43 : decode cX7_tell 43 = .ok (.iconst 1, 1) := by decide +kernel
theorem dX7_tell_44 : decode cX7_tell 44 = .ok (.iadd, 1) := by decide +kernel
theorem dX7_tell_45 : decode cX7_tell 45 = .ok (.putfield 304, 3) := by decide +kernel
theorem dX7_tell_48 : decode cX7_tell 48 = .ok (.aload_n 0, 1) := by decide +kernel
theorem dX7_tell_49 : decode cX7_tell 49 = .ok (.getfield 12, 3) := by decide +kernel
theorem dX7_tell_52 : decode cX7_tell 52 = .ok (.getfield 304, 3) := by decide +kernel
theorem dX7_tell_55 : decode cX7_tell 55 = .ok (.ireturn, 1) := by decide +kernel
theorem dX7_count_0 : decode cX7_count 0 = .ok (.aload_n 0, 1) := by decide +kernel
theorem dX7_count_1 : decode cX7_count 1 = .ok (.getfield 12, 3) := by decide +kernel
theorem dX7_count_4 : decode cX7_count 4 = .ok (.getfield 72, 3) := by decide +kernel
theorem dX7_count_7 : decode cX7_count 7 = .ok (.astore_n 2, 1) := by decide +kernel
theorem dX7_count_8 : decode cX7_count 8 = .ok (.iload_n 1, 1) := by decide +kernel
theorem dX7_count_9 : decode cX7_count 9 = .ok (.tableswitch 135 0 11 #[63, 68, 73, 78, 83, 88, 93, 98, 103, 111, 119, 127], 63) := by decide +kernel
theorem dX7_count_72 : decode cX7_count 72 = .ok (.aload_n 2, 1) := by decide +kernel
theorem dX7_count_73 : decode cX7_count 73 = .ok (.getfield 86, 3) := by decide +kernel
theorem dX7_count_76 : decode cX7_count 76 = .ok (.ireturn, 1) := by decide +kernel
theorem dX7_count_77 : decode cX7_count 77 = .ok (.aload_n 2, 1) := by decide +kernel
theorem dX7_count_78 : decode cX7_count 78 = .ok (.getfield 174, 3) := by decide +kernel
theorem dX7_count_81 : decode cX7_count 81 = .ok (.ireturn, 1) := by decide +kernel
theorem dX7_count_82 : decode cX7_count 82 = .ok (.aload_n 2, 1) := by decide +kernel
theorem dX7_count_83 : decode cX7_count 83 = .ok (.getfield 201, 3) := by decide +kernel
theorem dX7_count_86 : decode cX7_count 86 = .ok (.ireturn, 1) := by decide +kernel
theorem dX7_count_87 : decode cX7_count 87 = .ok (.aload_n 2, 1) := by decide +kernel
theorem dX7_count_88 : decode cX7_count 88 = .ok (.getfield 188, 3) := by decide +kernel
theorem dX7_count_91 : decode cX7_count 91 = .ok (.ireturn, 1) := by decide +kernel
theorem dX7_count_92 : decode cX7_count 92 = .ok (.aload_n 2, 1) := by decide +kernel
theorem dX7_count_93 : decode cX7_count 93 = .ok (.getfield 222, 3) := by decide +kernel
theorem dX7_count_96 : decode cX7_count 96 = .ok (.ireturn, 1) := by decide +kernel
theorem dX7_count_97 : decode cX7_count 97 = .ok (.aload_n 2, 1) := by decide +kernel
theorem dX7_count_98 : decode cX7_count 98 = .ok (.getfield 246, 3) := by decide +kernel
theorem dX7_count_101 : decode cX7_count 101 = .ok (.ireturn, 1) := by decide +kernel
theorem dX7_count_102 : decode cX7_count 102 = .ok (.aload_n 2, 1) := by decide +kernel
theorem dX7_count_103 : decode cX7_count 103 = .ok (.invokevirtual 198, 3) := by decide +kernel
theorem dX7_count_106 : decode cX7_count 106 = .ok (.ireturn, 1) := by decide +kernel
theorem dX7_count_107 : decode cX7_count 107 = .ok (.aload_n 2, 1) := by decide +kernel
theorem dX7_count_108 : decode cX7_count 108 = .ok (.invokevirtual 310, 3) := by decide +kernel
theorem dX7_count_111 : decode cX7_count 111 = .ok (.ireturn, 1) := by decide +kernel
theorem dX7_count_112 : decode cX7_count 112 = .ok (.aload_n 0, 1) := by decide +kernel
theorem dX7_count_113 : decode cX7_count 113 = .ok (.getfield 12, 3) := by decide +kernel
theorem dX7_count_116 : decode cX7_count 116 = .ok (.getfield 147, 3) := by decide +kernel
theorem dX7_count_119 : decode cX7_count 119 = .ok (.ireturn, 1) := by decide +kernel
theorem dX7_count_120 : decode cX7_count 120 = .ok (.aload_n 0, 1) := by decide +kernel
theorem dX7_count_121 : decode cX7_count 121 = .ok (.getfield 12, 3) := by decide +kernel
theorem dX7_count_124 : decode cX7_count 124 = .ok (.getfield 304, 3) := by decide +kernel
theorem dX7_count_127 : decode cX7_count 127 = .ok (.ireturn, 1) := by decide +kernel
theorem dX7_count_128 : decode cX7_count 128 = .ok (.aload_n 0, 1) := by decide +kernel
theorem dX7_count_129 : decode cX7_count 129 = .ok (.getfield 45, 3) := by decide +kernel
theorem dX7_count_132 : decode cX7_count 132 = .ok (.getfield 265, 3) := by decide +kernel
theorem dX7_count_135 : decode cX7_count 135 = .ok (.ireturn, 1) := by decide +kernel
theorem dX7_count_136 : decode cX7_count 136 = .ok (.aload_n 0, 1) := by decide +kernel
theorem dX7_count_137 : decode cX7_count 137 = .ok (.getfield 12, 3) := by decide +kernel
theorem dX7_count_140 : decode cX7_count 140 = .ok (.getfield 255, 3) := by decide +kernel
theorem dX7_count_143 : decode cX7_count 143 = .ok (.ireturn, 1) := by decide +kernel
theorem dX7_count_144 : decode cX7_count 144 = .ok (.aload_n 0, 1) := by decide +kernel
theorem dX7_count_145 : decode cX7_count 145 = .ok (.ldc 68, 2) := by decide +kernel
theorem dX7_count_147 : decode cX7_count 147 = .ok (.invokevirtual 69, 3) := by decide +kernel
theorem dX7_count_150 : decode cX7_count 150 = .ok (.ireturn, 1) := by decide +kernel
theorem dX7_told_0 : decode cX7_told 0 = .ok (.iload_n 1, 1) := by decide +kernel
theorem dX7_told_1 : decode cX7_told 1 = .ok (.iconst 1, 1) := by decide +kernel
theorem dX7_told_2 : decode cX7_told 2 = .ok (.iconst 5, 1) := by decide +kernel
theorem dX7_told_3 : decode cX7_told 3 = .ok (.invokestatic 60, 3) := by decide +kernel
theorem dX7_told_6 : decode cX7_told 6 = .ok (.ifCond .eq 12, 3) := by decide +kernel
theorem dX7_told_9 : decode cX7_told 9 = .ok (.aload_n 0, 1) := by decide +kernel
theorem dX7_told_10 : decode cX7_told 10 = .ok (.getfield 55, 3) := by decide +kernel
theorem dX7_told_13 : decode cX7_told 13 = .ok (.iload_n 1, 1) := by decide +kernel
theorem dX7_told_14 : decode cX7_told 14 = .ok (.iaload, 1) := by decide +kernel
theorem dX7_told_15 : decode cX7_told 15 = .ok (.goto 9, 3) := by decide +kernel
theorem dX7_told_24 : decode cX7_told 24 = .ok (.ireturn, 1) := by decide +kernel
theorem dX7_told_18 : decode cX7_told 18 = .ok (.aload_n 0, 1) := by decide +kernel
theorem dX7_told_19 : decode cX7_told 19 = .ok (.ldc 68, 2) := by decide +kernel
theorem dX7_told_21 : decode cX7_told 21 = .ok (.invokevirtual 69, 3) := by decide +kernel
theorem dX4_copyFrom_0 : decode cX4_copyFrom 0 = .ok (.aload_n 1, 1) := by decide +kernel
theorem dX4_copyFrom_1 : decode cX4_copyFrom 1 = .ok (.getfield 9, 3) := by decide +kernel
theorem dX4_copyFrom_4 : decode cX4_copyFrom 4 = .ok (.iconst 0, 1) := by decide +kernel
theorem dX4_copyFrom_5 : decode cX4_copyFrom 5 = .ok (.aload_n 0, 1) := by decide +kernel
theorem dX4_copyFrom_6 : decode cX4_copyFrom 6 = .ok (.getfield 9, 3) := by decide +kernel
theorem dX4_copyFrom_9 : decode cX4_copyFrom 9 = .ok (.iconst 0, 1) := by decide +kernel
theorem dX4_copyFrom_10 : decode cX4_copyFrom 10 = .ok (.aload_n 1, 1) := by decide +kernel
theorem dX4_copyFrom_11 : decode cX4_copyFrom 11 = .ok (.getfield 28, 3) := by decide +kernel
theorem dX4_copyFrom_14 : decode cX4_copyFrom 14 = .ok (.invokestatic 31, 3) := by decide +kernel
theorem dX4_copyFrom_17 : decode cX4_copyFrom 17 = .ok (.aload_n 1, 1) := by decide +kernel
theorem dX4_copyFrom_18 : decode cX4_copyFrom 18 = .ok (.getfield 15, 3) := by decide +kernel
theorem dX4_copyFrom_21 : decode cX4_copyFrom 21 = .ok (.iconst 0, 1) := by decide +kernel
theorem dX4_copyFrom_22 : decode cX4_copyFrom 22 = .ok (.aload_n 0, 1) := by decide +kernel
theorem dX4_copyFrom_23 : decode cX4_copyFrom 23 = .ok (.getfield 15, 3) := by decide +kernel
theorem dX4_copyFrom_26 : decode cX4_copyFrom 26 = .ok (.iconst 0, 1) := by decide +kernel
theorem dX4_copyFrom_27 : decode cX4_copyFrom 27 = .ok (.aload_n 1, 1) := by decide +kernel
theorem dX4_copyFrom_28 : decode cX4_copyFrom 28 = .ok (.getfield 28, 3) := by decide +kernel
theorem dX4_copyFrom_31 : decode cX4_copyFrom 31 = .ok (.invokestatic 31, 3) := by decide +kernel
theorem dX4_copyFrom_34 : decode cX4_copyFrom 34 = .ok (.aload_n 1, 1) := by decide +kernel
theorem dX4_copyFrom_35 : decode cX4_copyFrom 35 = .ok (.getfield 18, 3) := by decide +kernel
theorem dX4_copyFrom_38 : decode cX4_copyFrom 38 = .ok (.iconst 0, 1) := by decide +kernel
theorem dX4_copyFrom_39 : decode cX4_copyFrom 39 = .ok (.aload_n 0, 1) := by decide +kernel
theorem dX4_copyFrom_40 : decode cX4_copyFrom 40 = .ok (.getfield 18, 3) := by decide +kernel
theorem dX4_copyFrom_43 : decode cX4_copyFrom 43 = .ok (.iconst 0, 1) := by decide +kernel
theorem dX4_copyFrom_44 : decode cX4_copyFrom 44 = .ok (.aload_n 1, 1) := by decide +kernel
theorem dX4_copyFrom_45 : decode cX4_copyFrom 45 = .ok (.getfield 28, 3) := by decide +kernel
theorem dX4_copyFrom_48 : decode cX4_copyFrom 48 = .ok (.invokestatic 31, 3) := by decide +kernel
theorem dX4_copyFrom_51 : decode cX4_copyFrom 51 = .ok (.aload_n 0, 1) := by decide +kernel
theorem dX4_copyFrom_52 : decode cX4_copyFrom 52 = .ok (.aload_n 1, 1) := by decide +kernel
theorem dX4_copyFrom_53 : decode cX4_copyFrom 53 = .ok (.getfield 24, 3) := by decide +kernel
theorem dX4_copyFrom_56 : decode cX4_copyFrom 56 = .ok (.putfield 24, 3) := by decide +kernel
theorem dX4_copyFrom_59 : decode cX4_copyFrom 59 = .ok (.aload_n 0, 1) := by decide +kernel
theorem dX4_copyFrom_60 : decode cX4_copyFrom 60 = .ok (.aload_n 1, 1) := by decide +kernel
theorem dX4_copyFrom_61 : decode cX4_copyFrom 61 = .ok (.getfield 28, 3) := by decide +kernel
theorem dX4_copyFrom_64 : decode cX4_copyFrom 64 = .ok (.putfield 28, 3) := by decide +kernel
theorem dX4_copyFrom_67 : decode cX4_copyFrom 67 = .ok (.return_, 1) := by decide +kernel
theorem dX6_copyFrom_0 : decode cX6_copyFrom 0 = .ok (.aload_n 0, 1) := by decide +kernel
theorem dX6_copyFrom_1 : decode cX6_copyFrom 1 = .ok (.getfield 12, 3) := by decide +kernel
theorem dX6_copyFrom_4 : decode cX6_copyFrom 4 = .ok (.aload_n 1, 1) := by decide +kernel
theorem dX6_copyFrom_5 : decode cX6_copyFrom 5 = .ok (.getfield 12, 3) := by decide +kernel
theorem dX6_copyFrom_8 : decode cX6_copyFrom 8 = .ok (.invokevirtual 46, 3) := by decide +kernel
theorem dX6_copyFrom_11 : decode cX6_copyFrom 11 = .ok (.aload_n 0, 1) := by decide +kernel
theorem dX6_copyFrom_12 : decode cX6_copyFrom 12 = .ok (.getfield 18, 3) := by decide +kernel
theorem dX6_copyFrom_15 : decode cX6_copyFrom 15 = .ok (.aload_n 1, 1) := by decide +kernel
theorem dX6_copyFrom_16 : decode cX6_copyFrom 16 = .ok (.getfield 18, 3) := by decide +kernel
theorem dX6_copyFrom_19 : decode cX6_copyFrom 19 = .ok (.invokevirtual 46, 3) := by decide +kernel
theorem dX6_copyFrom_22 : decode cX6_copyFrom 22 = .ok (.aload_n 0, 1) := by decide +kernel
theorem dX6_copyFrom_23 : decode cX6_copyFrom 23 = .ok (.getfield 26, 3) := by decide +kernel
theorem dX6_copyFrom_26 : decode cX6_copyFrom 26 = .ok (.aload_n 1, 1) := by decide +kernel
theorem dX6_copyFrom_27 : decode cX6_copyFrom 27 = .ok (.getfield 26, 3) := by decide +kernel
theorem dX6_copyFrom_30 : decode cX6_copyFrom 30 = .ok (.invokevirtual 50, 3) := by decide +kernel
theorem dX6_copyFrom_33 : decode cX6_copyFrom 33 = .ok (.aload_n 1, 1) := by decide +kernel
theorem dX6_copyFrom_34 : decode cX6_copyFrom 34 = .ok (.getfield 30, 3) := by decide +kernel
theorem dX6_copyFrom_37 : decode cX6_copyFrom 37 = .ok (.iconst 0, 1) := by decide +kernel
theorem dX6_copyFrom_38 : decode cX6_copyFrom 38 = .ok (.aload_n 0, 1) := by decide +kernel
theorem dX6_copyFrom_39 : decode cX6_copyFrom 39 = .ok (.getfield 30, 3) := by decide +kernel
theorem dX6_copyFrom_42 : decode cX6_copyFrom 42 = .ok (.iconst 0, 1) := by decide +kernel
theorem dX6_copyFrom_43 : decode cX6_copyFrom 43 = .ok (.aload_n 1, 1) := by decide +kernel
theorem dX6_copyFrom_44 : decode cX6_copyFrom 44 = .ok (.getfield 53, 3) := by decide +kernel
theorem dX6_copyFrom_47 : decode cX6_copyFrom 47 = .ok (.invokestatic 56, 3) := by decide +kernel
theorem dX6_copyFrom_50 : decode cX6_copyFrom 50 = .ok (.aload_n 1, 1) := by decide +kernel
theorem dX6_copyFrom_51 : decode cX6_copyFrom 51 = .ok (.getfield 34, 3) := by decide +kernel
theorem dX6_copyFrom_54 : decode cX6_copyFrom 54 = .ok (.iconst 0, 1) := by decide +kernel
theorem dX6_copyFrom_55 : decode cX6_copyFrom 55 = .ok (.aload_n 0, 1) := by decide +kernel
theorem dX6_copyFrom_56 : decode cX6_copyFrom 56 = .ok (.getfield 34, 3) := by decide +kernel
theorem dX6_copyFrom_59 : decode cX6_copyFrom 59 = .ok (.iconst 0, 1) := by decide +kernel
theorem dX6_copyFrom_60 : decode cX6_copyFrom 60 = .ok (.aload_n 1, 1) := by decide +kernel
theorem dX6_copyFrom_61 : decode cX6_copyFrom 61 = .ok (.getfield 62, 3) := by decide +kernel
theorem dX6_copyFrom_64 : decode cX6_copyFrom 64 = .ok (.invokestatic 56, 3) := by decide +kernel
theorem dX6_copyFrom_67 : decode cX6_copyFrom 67 = .ok (.aload_n 0, 1) := by decide +kernel
theorem dX6_copyFrom_68 : decode cX6_copyFrom 68 = .ok (.aload_n 1, 1) := by decide +kernel
theorem dX6_copyFrom_69 : decode cX6_copyFrom 69 = .ok (.getfield 53, 3) := by decide +kernel
theorem dX6_copyFrom_72 : decode cX6_copyFrom 72 = .ok (.putfield 53, 3) := by decide +kernel
theorem dX6_copyFrom_75 : decode cX6_copyFrom 75 = .ok (.aload_n 0, 1) := by decide +kernel
theorem dX6_copyFrom_76 : decode cX6_copyFrom 76 = .ok (.aload_n 1, 1) := by decide +kernel
theorem dX6_copyFrom_77 : decode cX6_copyFrom 77 = .ok (.getfield 62, 3) := by decide +kernel
theorem dX6_copyFrom_80 : decode cX6_copyFrom 80 = .ok (.putfield 62, 3) := by decide +kernel
theorem dX6_copyFrom_83 : decode cX6_copyFrom 83 = .ok (.aload_n 0, 1) := by decide +kernel
theorem dX6_copyFrom_84 : decode cX6_copyFrom 84 = .ok (.aload_n 1, 1) := by decide +kernel
theorem dX6_copyFrom_85 : decode cX6_copyFrom 85 = .ok (.getfield 37, 3) := by decide +kernel
theorem dX6_copyFrom_88 : decode cX6_copyFrom 88 = .ok (.putfield 37, 3) := by decide +kernel
theorem dX6_copyFrom_91 : decode cX6_copyFrom 91 = .ok (.return_, 1) := by decide +kernel
theorem dX7_image_0 : decode cX7_image 0 = .ok (.aload_n 0, 1) := by decide +kernel
theorem dX7_image_1 : decode cX7_image 1 = .ok (.getfield 16, 3) := by decide +kernel
theorem dX7_image_4 : decode cX7_image 4 = .ok (.aload_n 0, 1) := by decide +kernel
theorem dX7_image_5 : decode cX7_image 5 = .ok (.getfield 12, 3) := by decide +kernel
theorem dX7_image_8 : decode cX7_image 8 = .ok (.invokevirtual 298, 3) := by decide +kernel
theorem dX7_image_11 : decode cX7_image 11 = .ok (.aload_n 0, 1) := by decide +kernel
theorem dX7_image_12 : decode cX7_image 12 = .ok (.dup, 1) := by decide +kernel
theorem dX7_image_13 : decode cX7_image 13 = .ok (.getfield 301, 3) := by decide +kernel
theorem dX7_image_16 : decode cX7_image 16 = .ok (.iconst 1, 1) := by decide +kernel
theorem dX7_image_17 : decode cX7_image 17 = .ok (.iadd, 1) := by decide +kernel
theorem dX7_image_18 : decode cX7_image 18 = .ok (.putfield 301, 3) := by decide +kernel
theorem dX7_image_21 : decode cX7_image 21 = .ok (.aload_n 0, 1) := by decide +kernel
theorem dX7_image_22 : decode cX7_image 22 = .ok (.getfield 301, 3) := by decide +kernel
theorem dX7_image_25 : decode cX7_image 25 = .ok (.ireturn, 1) := by decide +kernel
theorem dX1_turnInto_0 : decode cX1_turnInto 0 = .ok (.aload_n 0, 1) := by decide +kernel
theorem dX1_turnInto_1 : decode cX1_turnInto 1 = .ok (.iload_n 1, 1) := by decide +kernel
theorem dX1_turnInto_2 : decode cX1_turnInto 2 = .ok (.bipush 10, 2) := by decide +kernel
theorem dX1_turnInto_4 : decode cX1_turnInto 4 = .ok (.idiv, 1) := by decide +kernel
theorem dX1_turnInto_5 : decode cX1_turnInto 5 = .ok (.putfield 9, 3) := by decide +kernel
theorem dX1_turnInto_8 : decode cX1_turnInto 8 = .ok (.aload_n 0, 1) := by decide +kernel
theorem dX1_turnInto_9 : decode cX1_turnInto 9 = .ok (.iload_n 1, 1) := by decide +kernel
theorem dX1_turnInto_10 : decode cX1_turnInto 10 = .ok (.bipush 10, 2) := by decide +kernel
theorem dX1_turnInto_12 : decode cX1_turnInto 12 = .ok (.irem, 1) := by decide +kernel
theorem dX1_turnInto_13 : decode cX1_turnInto 13 = .ok (.putfield 15, 3) := by decide +kernel
theorem dX1_turnInto_16 : decode cX1_turnInto 16 = .ok (.return_, 1) := by decide +kernel
theorem dX7_quarrel_0 : decode cX7_quarrel 0 = .ok (.aload_n 0, 1) := by decide +kernel
theorem dX7_quarrel_1 : decode cX7_quarrel 1 = .ok (.getfield 12, 3) := by decide +kernel
theorem dX7_quarrel_4 : decode cX7_quarrel 4 = .ok (.getfield 72, 3) := by decide +kernel
theorem dX7_quarrel_7 : decode cX7_quarrel 7 = .ok (.astore 5, 2) := by decide +kernel
theorem dX7_quarrel_9 : decode cX7_quarrel 9 = .ok (.iload_n 1, 1) := by decide +kernel
theorem dX7_quarrel_10 : decode cX7_quarrel 10 = .ok (.invokestatic 82, 3) := by decide +kernel
theorem dX7_quarrel_13 : decode cX7_quarrel 13 = .ok (.ifCond .eq 39, 3) := by decide +kernel
theorem dX7_quarrel_16 : decode cX7_quarrel 16 = .ok (.iload_n 2, 1) := by decide +kernel
theorem dX7_quarrel_17 : decode cX7_quarrel 17 = .ok (.iconst 0, 1) := by decide +kernel
theorem dX7_quarrel_18 : decode cX7_quarrel 18 = .ok (.bipush 9, 2) := by decide +kernel
theorem dX7_quarrel_20 : decode cX7_quarrel 20 = .ok (.invokestatic 60, 3) := by decide +kernel
theorem dX7_quarrel_23 : decode cX7_quarrel 23 = .ok (.ifCond .eq 29, 3) := by decide +kernel
theorem dX7_quarrel_26 : decode cX7_quarrel 26 = .ok (.iload_n 3, 1) := by decide +kernel
theorem dX7_quarrel_27 : decode cX7_quarrel 27 = .ok (.iconst 0, 1) := by decide +kernel
theorem dX7_quarrel_28 : decode cX7_quarrel 28 = .ok (.bipush 99, 2) := by decide +kernel
theorem dX7_quarrel_30 : decode cX7_quarrel 30 = .ok (.invokestatic 60, 3) := by decide +kernel
theorem dX7_quarrel_33 : decode cX7_quarrel 33 = .ok (.ifCond .eq 19, 3) := by decide +kernel
theorem dX7_quarrel_36 : decode cX7_quarrel 36 = .ok (.iload 4, 2) := by decide +kernel
theorem dX7_quarrel_38 : decode cX7_quarrel 38 = .ok (.iconst (-1), 1) := by decide +kernel
theorem dX7_quarrel_39 : decode cX7_quarrel 39 = .ok (.aload 5, 2) := by decide +kernel
theorem dX7_quarrel_41 : decode cX7_quarrel 41 = .ok (.getfield 86, 3) := by decide +kernel
theorem dX7_quarrel_44 : decode cX7_quarrel 44 = .ok (.iconst 1, 1) := by decide +kernel
theorem dX7_quarrel_45 : decode cX7_quarrel 45 = .ok (.isub, 1) := by decide +kernel
theorem dX7_quarrel_46 : decode cX7_quarrel 46 = .ok (.invokestatic 60, 3) := by decide +kernel
theorem dX7_quarrel_49 : decode cX7_quarrel 49 = .ok (.ifCond .ne 10, 3) := by decide +kernel
theorem dX7_quarrel_59 : decode cX7_quarrel 59 = .ok (.aload 5, 2) := by decide +kernel
theorem dX7_quarrel_61 : decode cX7_quarrel 61 = .ok (.getfield 86, 3) := by decide +kernel
theorem dX7_quarrel_64 : decode cX7_quarrel 64 = .ok (.bipush 9, 2) := by decide +kernel
theorem dX7_quarrel_66 : decode cX7_quarrel 66 = .ok (.if_icmp .lt 10, 3) := by decide +kernel
theorem dX7_quarrel_76 : decode cX7_quarrel 76 = .ok (.aload 5, 2) := by decide +kernel
theorem dX7_quarrel_78 : decode cX7_quarrel 78 = .ok (.getfield 91, 3) := by decide +kernel
theorem dX7_quarrel_81 : decode cX7_quarrel 81 = .ok (.aload 5, 2) := by decide +kernel
theorem dX7_quarrel_83 : decode cX7_quarrel 83 = .ok (.getfield 86, 3) := by decide +kernel
theorem dX7_quarrel_86 : decode cX7_quarrel 86 = .ok (.aaload, 1) := by decide +kernel
theorem dX7_quarrel_87 : decode cX7_quarrel 87 = .ok (.astore 6, 2) := by decide +kernel
theorem dX7_quarrel_89 : decode cX7_quarrel 89 = .ok (.aload 6, 2) := by decide +kernel
theorem dX7_quarrel_91 : decode cX7_quarrel 91 = .ok (.iload_n 1, 1) := by decide +kernel
theorem dX7_quarrel_92 : decode cX7_quarrel 92 = .ok (.invokevirtual 95, 3) := by decide +kernel
theorem dX7_quarrel_95 : decode cX7_quarrel 95 = .ok (.aload 6, 2) := by decide +kernel
theorem dX7_quarrel_97 : decode cX7_quarrel 97 = .ok (.iload_n 2, 1) := by decide +kernel
theorem dX7_quarrel_98 : decode cX7_quarrel 98 = .ok (.putfield 101, 3) := by decide +kernel
theorem dX7_quarrel_101 : decode cX7_quarrel 101 = .ok (.aload 6, 2) := by decide +kernel
theorem dX7_quarrel_103 : decode cX7_quarrel 103 = .ok (.iload_n 3, 1) := by decide +kernel
theorem dX7_quarrel_104 : decode cX7_quarrel 104 = .ok (.putfield 104, 3) := by decide +kernel
theorem dX7_quarrel_107 : decode cX7_quarrel 107 = .ok (.aload 6, 2) := by decide +kernel
theorem dX7_quarrel_109 : decode cX7_quarrel 109 = .ok (.iload 4, 2) := by decide +kernel
theorem dX7_quarrel_111 : decode cX7_quarrel 111 = .ok (.putfield 107, 3) := by decide +kernel
theorem dX7_quarrel_114 : decode cX7_quarrel 114 = .ok (.aload 6, 2) := by decide +kernel
theorem dX7_quarrel_116 : decode cX7_quarrel 116 = .ok (.iconst 0, 1) := by decide +kernel
theorem dX7_quarrel_117 : decode cX7_quarrel 117 = .ok (.putfield 110, 3) := by decide +kernel
theorem dX7_quarrel_120 : decode cX7_quarrel 120 = .ok (.aload 6, 2) := by decide +kernel
theorem dX7_quarrel_122 : decode cX7_quarrel 122 = .ok (.iconst 0, 1) := by decide +kernel
theorem dX7_quarrel_123 : decode cX7_quarrel 123 = .ok (.putfield 114, 3) := by decide +kernel
theorem dX7_quarrel_126 : decode cX7_quarrel 126 = .ok (.aload 5, 2) := by decide +kernel
theorem dX7_quarrel_128 : decode cX7_quarrel 128 = .ok (.dup, 1) := by decide +kernel
theorem dX7_quarrel_129 : decode cX7_quarrel 129 = .ok (.getfield 86, 3) := by decide +kernel
theorem dX7_quarrel_132 : decode cX7_quarrel 132 = .ok (.iconst 1, 1) := by decide +kernel
theorem dX7_quarrel_133 : decode cX7_quarrel 133 = .ok (.iadd, 1) := by decide +kernel
theorem dX7_quarrel_134 : decode cX7_quarrel 134 = .ok (.putfield 86, 3) := by decide +kernel
theorem dX7_quarrel_137 : decode cX7_quarrel 137 = .ok (.aload 5, 2) := by decide +kernel
theorem dX7_quarrel_139 : decode cX7_quarrel 139 = .ok (.getfield 86, 3) := by decide +kernel
theorem dX7_quarrel_142 : decode cX7_quarrel 142 = .ok (.iconst 1, 1) := by decide +kernel
theorem dX7_quarrel_143 : decode cX7_quarrel 143 = .ok (.isub, 1) := by decide +kernel
theorem dX7_quarrel_144 : decode cX7_quarrel 144 = .ok (.ireturn, 1) := by decide +kernel
theorem dX7_quarrel_52 : decode cX7_quarrel 52 = .ok (.aload_n 0, 1) := by decide +kernel
theorem dX7_quarrel_53 : decode cX7_quarrel 53 = .ok (.ldc 68, 2) := by decide +kernel
theorem dX7_quarrel_55 : decode cX7_quarrel 55 = .ok (.invokevirtual 69, 3) := by decide +kernel
theorem dX7_quarrel_58 : decode cX7_quarrel 58 = .ok (.ireturn, 1) := by decide +kernel
set_option maxRecDepth 100000 in
set_option maxHeartbeats 4000000 in
theorem c_isMissing0_70 (l : Launch) (D : va_G) (y : wY) (ad : Nat → Nat) (M : Mem) (hm : M 70 1 = 0) : MI l D y ad yX3_isMissing (Cond.code yX3_isMissing cX3_isMissing 1 (some .boolean)) 0 M [.ref (ad 70)] (fun r M' => 1 = r ∧ M = M') := by
  refine MI_of (by decide) (Nat.le_of_ble_eq_true rfl) ?_
  intro p e s m args below meth c X hr hlocks
  refine j_lv (lv1 := [(0, .ref (ad 70))]) [0] rfl ?_
  refine j_aload_n X 0 rfl rfl dX3_isMissing_0 ?_
  refine j_get X (by decide) (wE_3 _ rfl) rfl awF3 1 (by decide) aw_644 rfl (v := .int (M 70 1)) rfl dX3_isMissing_1 ?_
  refine j_eqi (v := 0) hm ?_
  refine j_if_ne X 11 (by decide) dX3_isMissing_4 (fun c_1 => False.elim (by revert c_1; decide)) (fun c_1 => ?_)
  refine j_iconst X (v := 1) (by decide) dX3_isMissing_7 ?_
  refine j_goto X 12 (by decide) dX3_isMissing_8 ?_
  exact j_zret X hr hlocks (Or.inr rfl) dX3_isMissing_12 ⟨rfl, rfl⟩
set_option maxRecDepth 100000 in
set_option maxHeartbeats 4000000 in
theorem c_isMissing0_72 (l : Launch) (D : va_G) (y : wY) (ad : Nat → Nat) (M : Mem) (hm : M 72 1 = 0) : MI l D y ad yX3_isMissing (Cond.code yX3_isMissing cX3_isMissing 1 (some .boolean)) 0 M [.ref (ad 72)] (fun r M' => 1 = r ∧ M = M') := by
  refine MI_of (by decide) (Nat.le_of_ble_eq_true rfl) ?_
  intro p e s m args below meth c X hr hlocks
  refine j_lv (lv1 := [(0, .ref (ad 72))]) [0] rfl ?_
  refine j_aload_n X 0 rfl rfl dX3_isMissing_0 ?_
  refine j_get X (by decide) (wE_3 _ rfl) rfl awF3 1 (by decide) aw_644 rfl (v := .int (M 72 1)) rfl dX3_isMissing_1 ?_
  refine j_eqi (v := 0) hm ?_
  refine j_if_ne X 11 (by decide) dX3_isMissing_4 (fun c_1 => False.elim (by revert c_1; decide)) (fun c_1 => ?_)
  refine j_iconst X (v := 1) (by decide) dX3_isMissing_7 ?_
  refine j_goto X 12 (by decide) dX3_isMissing_8 ?_
  exact j_zret X hr hlocks (Or.inr rfl) dX3_isMissing_12 ⟨rfl, rfl⟩
set_option maxRecDepth 100000 in
set_option maxHeartbeats 4000000 in
theorem c_isMissing0_74 (l : Launch) (D : va_G) (y : wY) (ad : Nat → Nat) (M : Mem) (hm : M 74 1 = 0) : MI l D y ad yX3_isMissing (Cond.code yX3_isMissing cX3_isMissing 1 (some .boolean)) 0 M [.ref (ad 74)] (fun r M' => 1 = r ∧ M = M') := by
  refine MI_of (by decide) (Nat.le_of_ble_eq_true rfl) ?_
  intro p e s m args below meth c X hr hlocks
  refine j_lv (lv1 := [(0, .ref (ad 74))]) [0] rfl ?_
  refine j_aload_n X 0 rfl rfl dX3_isMissing_0 ?_
  refine j_get X (by decide) (wE_3 _ rfl) rfl awF3 1 (by decide) aw_644 rfl (v := .int (M 74 1)) rfl dX3_isMissing_1 ?_
  refine j_eqi (v := 0) hm ?_
  refine j_if_ne X 11 (by decide) dX3_isMissing_4 (fun c_1 => False.elim (by revert c_1; decide)) (fun c_1 => ?_)
  refine j_iconst X (v := 1) (by decide) dX3_isMissing_7 ?_
  refine j_goto X 12 (by decide) dX3_isMissing_8 ?_
  exact j_zret X hr hlocks (Or.inr rfl) dX3_isMissing_12 ⟨rfl, rfl⟩
set_option maxRecDepth 100000 in
set_option maxHeartbeats 4000000 in
theorem c_isMissing0_76 (l : Launch) (D : va_G) (y : wY) (ad : Nat → Nat) (M : Mem) (hm : M 76 1 = 0) : MI l D y ad yX3_isMissing (Cond.code yX3_isMissing cX3_isMissing 1 (some .boolean)) 0 M [.ref (ad 76)] (fun r M' => 1 = r ∧ M = M') := by
  refine MI_of (by decide) (Nat.le_of_ble_eq_true rfl) ?_
  intro p e s m args below meth c X hr hlocks
  refine j_lv (lv1 := [(0, .ref (ad 76))]) [0] rfl ?_
  refine j_aload_n X 0 rfl rfl dX3_isMissing_0 ?_
  refine j_get X (by decide) (wE_3 _ rfl) rfl awF3 1 (by decide) aw_644 rfl (v := .int (M 76 1)) rfl dX3_isMissing_1 ?_
  refine j_eqi (v := 0) hm ?_
  refine j_if_ne X 11 (by decide) dX3_isMissing_4 (fun c_1 => False.elim (by revert c_1; decide)) (fun c_1 => ?_)
  refine j_iconst X (v := 1) (by decide) dX3_isMissing_7 ?_
  refine j_goto X 12 (by decide) dX3_isMissing_8 ?_
  exact j_zret X hr hlocks (Or.inr rfl) dX3_isMissing_12 ⟨rfl, rfl⟩
set_option maxRecDepth 100000 in
set_option maxHeartbeats 4000000 in
theorem c0_X7_put (l : Launch) (D : va_G) (y : wY) (ad : Nat → Nat) (M : Mem) (hz : Z0 M) (s i v : Int32) : MI l D y ad yX7_put (Cond.code yX7_put cX7_put 5 (some .int)) 6 M [.ref (ad 0), .int s, .int i, .int v] (fun r _ => sp_put s i v = r) := by
  refine MI_of (by decide) (Nat.le_of_ble_eq_true rfl) ?_
  intro p e s m args below meth c X hr hlocks
  refine j_lv (lv1 := [(0, .ref (ad 0)), (1, .int s), (2, .int i), (3, .int v)]) [0, 1, 2, 3] rfl ?_
  refine j_iload_n X 1 rfl rfl dX7_put_0 ?_
  refine j_callSI X (nn := 1) (As := [.int s]) (st := []) aw_639 (c_X7_isSheet l D y ad M s) aw_638 aw_640 aw_2 (by decide +kernel) ⟨by decide, by decide⟩ rfl (Nat.le_of_ble_eq_true rfl) ⟨by decide, by decide⟩ dX7_put_1 ?_
  rintro r_ M1_ (⟨rfl, rfl, h_1⟩ | ⟨rfl, rfl, h_1⟩)
  · refine j_if_ne X 14 (by decide) dX7_put_4 (fun c_2 => ?_) (fun c_2 => False.elim (by revert c_2; decide))
    refine j_aload_n X 0 rfl rfl dX7_put_14 ?_
    refine j_get X (by decide) (wE_7 _ rfl) rfl awF7 5 (by decide) aw_31 rfl (v := .ref (ad 69)) rfl dX7_put_15 ?_
    refine j_iload_n X 1 rfl rfl dX7_put_18 ?_
    rcases is_0_3 h_1 with rfl | rfl | rfl | rfl
    · refine j_aald11 X (by decide) rfl (by unfold vp_in; decide) dX7_put_19 ?_
      refine j_eqr (v := 70) rfl ?_
      refine j_astore X [(4, .ref (ad 70)), (0, .ref (ad 0)), (1, .int 0), (2, .int i), (3, .int v)] (by decide) rfl dX7_put_20 ?_
      refine j_aload X 0 rfl dX7_put_22 ?_
      refine j_callVNI X (nn := 0) (As := []) (st := []) (ci := 3) (by decide) (wE_3 _ rfl) rfl aw_641 aw_642 (c_isMissing0_70 l D y ad M hz.2.2.2.2.2.2.2.2.2.2.2.1) (List.mem_of_getElem? (i := 38) rfl) aw_643 aw_35 (by decide +kernel) ⟨by decide, by decide⟩ rfl (Nat.le_of_ble_eq_true rfl) ⟨by decide, by decide⟩ dX7_put_24 ?_
      rintro r_ M1_ ⟨rfl, rfl⟩
      refine j_if_eq X 37 (by decide) dX7_put_27 (fun c_3 => False.elim (by revert c_3; decide)) (fun c_3 => ?_)
      refine j_aload_n X 1 rfl rfl dX7_put_30 ?_
      refine j_ldc X (v := (-1000000002)) aw_560 dX7_put_31 ?_
      refine j_callVI X (nn := 1) (As := [.int (-1000000002)]) (st := []) (ci := 7) (by decide) (wE_7 _ rfl) rfl aw_117 aw_118 (c_X7_refuse l D y ad M (-1000000002) 2 (by decide) (by decide)) aw_116 aw_119 aw_2 (by decide +kernel) ⟨by decide, by decide⟩ rfl (Nat.le_of_ble_eq_true rfl) ⟨by decide, by decide⟩ dX7_put_33 ?_
      rintro r_ M1_ ⟨rfl, rfl⟩
      exact j_iret X hr hlocks dX7_put_36 (by unfold sp_put; (repeat' split) <;> first | rfl | omega | (exfalso; omega))
    · refine j_aald11 X (by decide) rfl (by unfold vp_in; decide) dX7_put_19 ?_
      refine j_eqr (v := 72) rfl ?_
      refine j_astore X [(4, .ref (ad 72)), (0, .ref (ad 0)), (1, .int 1), (2, .int i), (3, .int v)] (by decide) rfl dX7_put_20 ?_
      refine j_aload X 0 rfl dX7_put_22 ?_
      refine j_callVNI X (nn := 0) (As := []) (st := []) (ci := 3) (by decide) (wE_3 _ rfl) rfl aw_641 aw_642 (c_isMissing0_72 l D y ad M hz.2.2.2.2.2.2.2.2.2.2.2.2.1) (List.mem_of_getElem? (i := 38) rfl) aw_643 aw_35 (by decide +kernel) ⟨by decide, by decide⟩ rfl (Nat.le_of_ble_eq_true rfl) ⟨by decide, by decide⟩ dX7_put_24 ?_
      rintro r_ M1_ ⟨rfl, rfl⟩
      refine j_if_eq X 37 (by decide) dX7_put_27 (fun c_4 => False.elim (by revert c_4; decide)) (fun c_4 => ?_)
      refine j_aload_n X 1 rfl rfl dX7_put_30 ?_
      refine j_ldc X (v := (-1000000002)) aw_560 dX7_put_31 ?_
      refine j_callVI X (nn := 1) (As := [.int (-1000000002)]) (st := []) (ci := 7) (by decide) (wE_7 _ rfl) rfl aw_117 aw_118 (c_X7_refuse l D y ad M (-1000000002) 2 (by decide) (by decide)) aw_116 aw_119 aw_2 (by decide +kernel) ⟨by decide, by decide⟩ rfl (Nat.le_of_ble_eq_true rfl) ⟨by decide, by decide⟩ dX7_put_33 ?_
      rintro r_ M1_ ⟨rfl, rfl⟩
      exact j_iret X hr hlocks dX7_put_36 (by unfold sp_put; (repeat' split) <;> first | rfl | omega | (exfalso; omega))
    · refine j_aald11 X (by decide) rfl (by unfold vp_in; decide) dX7_put_19 ?_
      refine j_eqr (v := 74) rfl ?_
      refine j_astore X [(4, .ref (ad 74)), (0, .ref (ad 0)), (1, .int 2), (2, .int i), (3, .int v)] (by decide) rfl dX7_put_20 ?_
      refine j_aload X 0 rfl dX7_put_22 ?_
      refine j_callVNI X (nn := 0) (As := []) (st := []) (ci := 3) (by decide) (wE_3 _ rfl) rfl aw_641 aw_642 (c_isMissing0_74 l D y ad M hz.2.2.2.2.2.2.2.2.2.2.2.2.2.1) (List.mem_of_getElem? (i := 38) rfl) aw_643 aw_35 (by decide +kernel) ⟨by decide, by decide⟩ rfl (Nat.le_of_ble_eq_true rfl) ⟨by decide, by decide⟩ dX7_put_24 ?_
      rintro r_ M1_ ⟨rfl, rfl⟩
      refine j_if_eq X 37 (by decide) dX7_put_27 (fun c_5 => False.elim (by revert c_5; decide)) (fun c_5 => ?_)
      refine j_aload_n X 1 rfl rfl dX7_put_30 ?_
      refine j_ldc X (v := (-1000000002)) aw_560 dX7_put_31 ?_
      refine j_callVI X (nn := 1) (As := [.int (-1000000002)]) (st := []) (ci := 7) (by decide) (wE_7 _ rfl) rfl aw_117 aw_118 (c_X7_refuse l D y ad M (-1000000002) 2 (by decide) (by decide)) aw_116 aw_119 aw_2 (by decide +kernel) ⟨by decide, by decide⟩ rfl (Nat.le_of_ble_eq_true rfl) ⟨by decide, by decide⟩ dX7_put_33 ?_
      rintro r_ M1_ ⟨rfl, rfl⟩
      exact j_iret X hr hlocks dX7_put_36 (by unfold sp_put; (repeat' split) <;> first | rfl | omega | (exfalso; omega))
    · refine j_aald11 X (by decide) rfl (by unfold vp_in; decide) dX7_put_19 ?_
      refine j_eqr (v := 76) rfl ?_
      refine j_astore X [(4, .ref (ad 76)), (0, .ref (ad 0)), (1, .int 3), (2, .int i), (3, .int v)] (by decide) rfl dX7_put_20 ?_
      refine j_aload X 0 rfl dX7_put_22 ?_
      refine j_callVNI X (nn := 0) (As := []) (st := []) (ci := 3) (by decide) (wE_3 _ rfl) rfl aw_641 aw_642 (c_isMissing0_76 l D y ad M hz.2.2.2.2.2.2.2.2.2.2.2.2.2.2.1) (List.mem_of_getElem? (i := 38) rfl) aw_643 aw_35 (by decide +kernel) ⟨by decide, by decide⟩ rfl (Nat.le_of_ble_eq_true rfl) ⟨by decide, by decide⟩ dX7_put_24 ?_
      rintro r_ M1_ ⟨rfl, rfl⟩
      refine j_if_eq X 37 (by decide) dX7_put_27 (fun c_6 => False.elim (by revert c_6; decide)) (fun c_6 => ?_)
      refine j_aload_n X 1 rfl rfl dX7_put_30 ?_
      refine j_ldc X (v := (-1000000002)) aw_560 dX7_put_31 ?_
      refine j_callVI X (nn := 1) (As := [.int (-1000000002)]) (st := []) (ci := 7) (by decide) (wE_7 _ rfl) rfl aw_117 aw_118 (c_X7_refuse l D y ad M (-1000000002) 2 (by decide) (by decide)) aw_116 aw_119 aw_2 (by decide +kernel) ⟨by decide, by decide⟩ rfl (Nat.le_of_ble_eq_true rfl) ⟨by decide, by decide⟩ dX7_put_33 ?_
      rintro r_ M1_ ⟨rfl, rfl⟩
      exact j_iret X hr hlocks dX7_put_36 (by unfold sp_put; (repeat' split) <;> first | rfl | omega | (exfalso; omega))
  · refine j_if_ne X 14 (by decide) dX7_put_4 (fun c_7 => False.elim (by revert c_7; decide)) (fun c_7 => ?_)
    refine j_aload_n X 0 rfl rfl dX7_put_7 ?_
    refine j_ldc X (v := (-1000000001)) aw_108 dX7_put_8 ?_
    refine j_callVI X (nn := 1) (As := [.int (-1000000001)]) (st := []) (ci := 7) (by decide) (wE_7 _ rfl) rfl aw_117 aw_118 (c_X7_refuse l D y ad M (-1000000001) 1 (by decide) (by decide)) aw_116 aw_119 aw_2 (by decide +kernel) ⟨by decide, by decide⟩ rfl (Nat.le_of_ble_eq_true rfl) ⟨by decide, by decide⟩ dX7_put_10 ?_
    rintro r_ M1_ ⟨rfl, rfl⟩
    exact j_iret X hr hlocks dX7_put_13 (by unfold sp_put; (repeat' split) <;> first | rfl | omega | (exfalso; omega))
set_option maxRecDepth 100000 in
set_option maxHeartbeats 4000000 in
theorem c0_X7_edges (l : Launch) (D : va_G) (y : wY) (ad : Nat → Nat) (M : Mem) (hz : Z0 M) (s : Int32) : MI l D y ad yX7_edges (Cond.code yX7_edges cX7_edges 5 (some .int)) 6 M [.ref (ad 0), .int s] (fun r _ => sp_edges s = r) := by
  refine MI_of (by decide) (Nat.le_of_ble_eq_true rfl) ?_
  intro p e s m args below meth c X hr hlocks
  refine j_lv (lv1 := [(0, .ref (ad 0)), (1, .int s)]) [0, 1] rfl ?_
  refine j_iload_n X 1 rfl rfl dX7_edges_0 ?_
  refine j_callSI X (nn := 1) (As := [.int s]) (st := []) aw_639 (c_X7_isSheet l D y ad M s) aw_638 aw_640 aw_2 (by decide +kernel) ⟨by decide, by decide⟩ rfl (Nat.le_of_ble_eq_true rfl) ⟨by decide, by decide⟩ dX7_edges_1 ?_
  rintro r_ M1_ (⟨rfl, rfl, h_1⟩ | ⟨rfl, rfl, h_1⟩)
  · refine j_if_ne X 14 (by decide) dX7_edges_4 (fun c_2 => ?_) (fun c_2 => False.elim (by revert c_2; decide))
    refine j_aload_n X 0 rfl rfl dX7_edges_14 ?_
    refine j_get X (by decide) (wE_7 _ rfl) rfl awF7 5 (by decide) aw_31 rfl (v := .ref (ad 69)) rfl dX7_edges_15 ?_
    refine j_iload_n X 1 rfl rfl dX7_edges_18 ?_
    rcases is_0_3 h_1 with rfl | rfl | rfl | rfl
    · refine j_aald11 X (by decide) rfl (by unfold vp_in; decide) dX7_edges_19 ?_
      refine j_eqr (v := 70) rfl ?_
      refine j_astore_n X [(2, .ref (ad 70)), (0, .ref (ad 0)), (1, .int 0)] rfl (by decide) rfl dX7_edges_20 ?_
      refine j_aload_n X 0 rfl rfl dX7_edges_21 ?_
      refine j_callVNI X (nn := 0) (As := []) (st := []) (ci := 3) (by decide) (wE_3 _ rfl) rfl aw_641 aw_642 (c_isMissing0_70 l D y ad M hz.2.2.2.2.2.2.2.2.2.2.2.1) (List.mem_of_getElem? (i := 38) rfl) aw_643 aw_35 (by decide +kernel) ⟨by decide, by decide⟩ rfl (Nat.le_of_ble_eq_true rfl) ⟨by decide, by decide⟩ dX7_edges_22 ?_
      rintro r_ M1_ ⟨rfl, rfl⟩
      refine j_if_eq X 35 (by decide) dX7_edges_25 (fun c_3 => False.elim (by revert c_3; decide)) (fun c_3 => ?_)
      refine j_aload_n X 1 rfl rfl dX7_edges_28 ?_
      refine j_ldc X (v := (-1000000002)) aw_560 dX7_edges_29 ?_
      refine j_callVI X (nn := 1) (As := [.int (-1000000002)]) (st := []) (ci := 7) (by decide) (wE_7 _ rfl) rfl aw_117 aw_118 (c_X7_refuse l D y ad M (-1000000002) 2 (by decide) (by decide)) aw_116 aw_119 aw_2 (by decide +kernel) ⟨by decide, by decide⟩ rfl (Nat.le_of_ble_eq_true rfl) ⟨by decide, by decide⟩ dX7_edges_31 ?_
      rintro r_ M1_ ⟨rfl, rfl⟩
      exact j_iret X hr hlocks dX7_edges_34 (by unfold sp_edges; (repeat' split) <;> first | rfl | omega | (exfalso; omega))
    · refine j_aald11 X (by decide) rfl (by unfold vp_in; decide) dX7_edges_19 ?_
      refine j_eqr (v := 72) rfl ?_
      refine j_astore_n X [(2, .ref (ad 72)), (0, .ref (ad 0)), (1, .int 1)] rfl (by decide) rfl dX7_edges_20 ?_
      refine j_aload_n X 0 rfl rfl dX7_edges_21 ?_
      refine j_callVNI X (nn := 0) (As := []) (st := []) (ci := 3) (by decide) (wE_3 _ rfl) rfl aw_641 aw_642 (c_isMissing0_72 l D y ad M hz.2.2.2.2.2.2.2.2.2.2.2.2.1) (List.mem_of_getElem? (i := 38) rfl) aw_643 aw_35 (by decide +kernel) ⟨by decide, by decide⟩ rfl (Nat.le_of_ble_eq_true rfl) ⟨by decide, by decide⟩ dX7_edges_22 ?_
      rintro r_ M1_ ⟨rfl, rfl⟩
      refine j_if_eq X 35 (by decide) dX7_edges_25 (fun c_4 => False.elim (by revert c_4; decide)) (fun c_4 => ?_)
      refine j_aload_n X 1 rfl rfl dX7_edges_28 ?_
      refine j_ldc X (v := (-1000000002)) aw_560 dX7_edges_29 ?_
      refine j_callVI X (nn := 1) (As := [.int (-1000000002)]) (st := []) (ci := 7) (by decide) (wE_7 _ rfl) rfl aw_117 aw_118 (c_X7_refuse l D y ad M (-1000000002) 2 (by decide) (by decide)) aw_116 aw_119 aw_2 (by decide +kernel) ⟨by decide, by decide⟩ rfl (Nat.le_of_ble_eq_true rfl) ⟨by decide, by decide⟩ dX7_edges_31 ?_
      rintro r_ M1_ ⟨rfl, rfl⟩
      exact j_iret X hr hlocks dX7_edges_34 (by unfold sp_edges; (repeat' split) <;> first | rfl | omega | (exfalso; omega))
    · refine j_aald11 X (by decide) rfl (by unfold vp_in; decide) dX7_edges_19 ?_
      refine j_eqr (v := 74) rfl ?_
      refine j_astore_n X [(2, .ref (ad 74)), (0, .ref (ad 0)), (1, .int 2)] rfl (by decide) rfl dX7_edges_20 ?_
      refine j_aload_n X 0 rfl rfl dX7_edges_21 ?_
      refine j_callVNI X (nn := 0) (As := []) (st := []) (ci := 3) (by decide) (wE_3 _ rfl) rfl aw_641 aw_642 (c_isMissing0_74 l D y ad M hz.2.2.2.2.2.2.2.2.2.2.2.2.2.1) (List.mem_of_getElem? (i := 38) rfl) aw_643 aw_35 (by decide +kernel) ⟨by decide, by decide⟩ rfl (Nat.le_of_ble_eq_true rfl) ⟨by decide, by decide⟩ dX7_edges_22 ?_
      rintro r_ M1_ ⟨rfl, rfl⟩
      refine j_if_eq X 35 (by decide) dX7_edges_25 (fun c_5 => False.elim (by revert c_5; decide)) (fun c_5 => ?_)
      refine j_aload_n X 1 rfl rfl dX7_edges_28 ?_
      refine j_ldc X (v := (-1000000002)) aw_560 dX7_edges_29 ?_
      refine j_callVI X (nn := 1) (As := [.int (-1000000002)]) (st := []) (ci := 7) (by decide) (wE_7 _ rfl) rfl aw_117 aw_118 (c_X7_refuse l D y ad M (-1000000002) 2 (by decide) (by decide)) aw_116 aw_119 aw_2 (by decide +kernel) ⟨by decide, by decide⟩ rfl (Nat.le_of_ble_eq_true rfl) ⟨by decide, by decide⟩ dX7_edges_31 ?_
      rintro r_ M1_ ⟨rfl, rfl⟩
      exact j_iret X hr hlocks dX7_edges_34 (by unfold sp_edges; (repeat' split) <;> first | rfl | omega | (exfalso; omega))
    · refine j_aald11 X (by decide) rfl (by unfold vp_in; decide) dX7_edges_19 ?_
      refine j_eqr (v := 76) rfl ?_
      refine j_astore_n X [(2, .ref (ad 76)), (0, .ref (ad 0)), (1, .int 3)] rfl (by decide) rfl dX7_edges_20 ?_
      refine j_aload_n X 0 rfl rfl dX7_edges_21 ?_
      refine j_callVNI X (nn := 0) (As := []) (st := []) (ci := 3) (by decide) (wE_3 _ rfl) rfl aw_641 aw_642 (c_isMissing0_76 l D y ad M hz.2.2.2.2.2.2.2.2.2.2.2.2.2.2.1) (List.mem_of_getElem? (i := 38) rfl) aw_643 aw_35 (by decide +kernel) ⟨by decide, by decide⟩ rfl (Nat.le_of_ble_eq_true rfl) ⟨by decide, by decide⟩ dX7_edges_22 ?_
      rintro r_ M1_ ⟨rfl, rfl⟩
      refine j_if_eq X 35 (by decide) dX7_edges_25 (fun c_6 => False.elim (by revert c_6; decide)) (fun c_6 => ?_)
      refine j_aload_n X 1 rfl rfl dX7_edges_28 ?_
      refine j_ldc X (v := (-1000000002)) aw_560 dX7_edges_29 ?_
      refine j_callVI X (nn := 1) (As := [.int (-1000000002)]) (st := []) (ci := 7) (by decide) (wE_7 _ rfl) rfl aw_117 aw_118 (c_X7_refuse l D y ad M (-1000000002) 2 (by decide) (by decide)) aw_116 aw_119 aw_2 (by decide +kernel) ⟨by decide, by decide⟩ rfl (Nat.le_of_ble_eq_true rfl) ⟨by decide, by decide⟩ dX7_edges_31 ?_
      rintro r_ M1_ ⟨rfl, rfl⟩
      exact j_iret X hr hlocks dX7_edges_34 (by unfold sp_edges; (repeat' split) <;> first | rfl | omega | (exfalso; omega))
  · refine j_if_ne X 14 (by decide) dX7_edges_4 (fun c_7 => False.elim (by revert c_7; decide)) (fun c_7 => ?_)
    refine j_aload_n X 0 rfl rfl dX7_edges_7 ?_
    refine j_ldc X (v := (-1000000001)) aw_108 dX7_edges_8 ?_
    refine j_callVI X (nn := 1) (As := [.int (-1000000001)]) (st := []) (ci := 7) (by decide) (wE_7 _ rfl) rfl aw_117 aw_118 (c_X7_refuse l D y ad M (-1000000001) 1 (by decide) (by decide)) aw_116 aw_119 aw_2 (by decide +kernel) ⟨by decide, by decide⟩ rfl (Nat.le_of_ble_eq_true rfl) ⟨by decide, by decide⟩ dX7_edges_10 ?_
    rintro r_ M1_ ⟨rfl, rfl⟩
    exact j_iret X hr hlocks dX7_edges_13 (by unfold sp_edges; (repeat' split) <;> first | rfl | omega | (exfalso; omega))
set_option maxRecDepth 100000 in
set_option maxHeartbeats 4000000 in
theorem c0_X7_judge (l : Launch) (D : va_G) (y : wY) (ad : Nat → Nat) (M : Mem) (hz : Z0 M) (s : Int32) : MI l D y ad yX7_judge (Cond.code yX7_judge cX7_judge 5 (some .int)) 6 M [.ref (ad 0), .int s] (fun r _ => sp_judge s = r) := by
  refine MI_of (by decide) (Nat.le_of_ble_eq_true rfl) ?_
  intro p e s m args below meth c X hr hlocks
  refine j_lv (lv1 := [(0, .ref (ad 0)), (1, .int s)]) [0, 1] rfl ?_
  refine j_iload_n X 1 rfl rfl dX7_judge_0 ?_
  refine j_callSI X (nn := 1) (As := [.int s]) (st := []) aw_639 (c_X7_isSheet l D y ad M s) aw_638 aw_640 aw_2 (by decide +kernel) ⟨by decide, by decide⟩ rfl (Nat.le_of_ble_eq_true rfl) ⟨by decide, by decide⟩ dX7_judge_1 ?_
  rintro r_ M1_ (⟨rfl, rfl, h_1⟩ | ⟨rfl, rfl, h_1⟩)
  · refine j_if_ne X 14 (by decide) dX7_judge_4 (fun c_2 => ?_) (fun c_2 => False.elim (by revert c_2; decide))
    refine j_aload_n X 0 rfl rfl dX7_judge_14 ?_
    refine j_get X (by decide) (wE_7 _ rfl) rfl awF7 5 (by decide) aw_31 rfl (v := .ref (ad 69)) rfl dX7_judge_15 ?_
    refine j_iload_n X 1 rfl rfl dX7_judge_18 ?_
    rcases is_0_3 h_1 with rfl | rfl | rfl | rfl
    · refine j_aald11 X (by decide) rfl (by unfold vp_in; decide) dX7_judge_19 ?_
      refine j_eqr (v := 70) rfl ?_
      refine j_astore_n X [(2, .ref (ad 70)), (0, .ref (ad 0)), (1, .int 0)] rfl (by decide) rfl dX7_judge_20 ?_
      refine j_aload_n X 0 rfl rfl dX7_judge_21 ?_
      refine j_callVNI X (nn := 0) (As := []) (st := []) (ci := 3) (by decide) (wE_3 _ rfl) rfl aw_641 aw_642 (c_isMissing0_70 l D y ad M hz.2.2.2.2.2.2.2.2.2.2.2.1) (List.mem_of_getElem? (i := 38) rfl) aw_643 aw_35 (by decide +kernel) ⟨by decide, by decide⟩ rfl (Nat.le_of_ble_eq_true rfl) ⟨by decide, by decide⟩ dX7_judge_22 ?_
      rintro r_ M1_ ⟨rfl, rfl⟩
      refine j_if_eq X 35 (by decide) dX7_judge_25 (fun c_3 => False.elim (by revert c_3; decide)) (fun c_3 => ?_)
      refine j_aload_n X 1 rfl rfl dX7_judge_28 ?_
      refine j_ldc X (v := (-1000000002)) aw_560 dX7_judge_29 ?_
      refine j_callVI X (nn := 1) (As := [.int (-1000000002)]) (st := []) (ci := 7) (by decide) (wE_7 _ rfl) rfl aw_117 aw_118 (c_X7_refuse l D y ad M (-1000000002) 2 (by decide) (by decide)) aw_116 aw_119 aw_2 (by decide +kernel) ⟨by decide, by decide⟩ rfl (Nat.le_of_ble_eq_true rfl) ⟨by decide, by decide⟩ dX7_judge_31 ?_
      rintro r_ M1_ ⟨rfl, rfl⟩
      exact j_iret X hr hlocks dX7_judge_34 (by unfold sp_judge; (repeat' split) <;> first | rfl | omega | (exfalso; omega))
    · refine j_aald11 X (by decide) rfl (by unfold vp_in; decide) dX7_judge_19 ?_
      refine j_eqr (v := 72) rfl ?_
      refine j_astore_n X [(2, .ref (ad 72)), (0, .ref (ad 0)), (1, .int 1)] rfl (by decide) rfl dX7_judge_20 ?_
      refine j_aload_n X 0 rfl rfl dX7_judge_21 ?_
      refine j_callVNI X (nn := 0) (As := []) (st := []) (ci := 3) (by decide) (wE_3 _ rfl) rfl aw_641 aw_642 (c_isMissing0_72 l D y ad M hz.2.2.2.2.2.2.2.2.2.2.2.2.1) (List.mem_of_getElem? (i := 38) rfl) aw_643 aw_35 (by decide +kernel) ⟨by decide, by decide⟩ rfl (Nat.le_of_ble_eq_true rfl) ⟨by decide, by decide⟩ dX7_judge_22 ?_
      rintro r_ M1_ ⟨rfl, rfl⟩
      refine j_if_eq X 35 (by decide) dX7_judge_25 (fun c_4 => False.elim (by revert c_4; decide)) (fun c_4 => ?_)
      refine j_aload_n X 1 rfl rfl dX7_judge_28 ?_
      refine j_ldc X (v := (-1000000002)) aw_560 dX7_judge_29 ?_
      refine j_callVI X (nn := 1) (As := [.int (-1000000002)]) (st := []) (ci := 7) (by decide) (wE_7 _ rfl) rfl aw_117 aw_118 (c_X7_refuse l D y ad M (-1000000002) 2 (by decide) (by decide)) aw_116 aw_119 aw_2 (by decide +kernel) ⟨by decide, by decide⟩ rfl (Nat.le_of_ble_eq_true rfl) ⟨by decide, by decide⟩ dX7_judge_31 ?_
      rintro r_ M1_ ⟨rfl, rfl⟩
      exact j_iret X hr hlocks dX7_judge_34 (by unfold sp_judge; (repeat' split) <;> first | rfl | omega | (exfalso; omega))
    · refine j_aald11 X (by decide) rfl (by unfold vp_in; decide) dX7_judge_19 ?_
      refine j_eqr (v := 74) rfl ?_
      refine j_astore_n X [(2, .ref (ad 74)), (0, .ref (ad 0)), (1, .int 2)] rfl (by decide) rfl dX7_judge_20 ?_
      refine j_aload_n X 0 rfl rfl dX7_judge_21 ?_
      refine j_callVNI X (nn := 0) (As := []) (st := []) (ci := 3) (by decide) (wE_3 _ rfl) rfl aw_641 aw_642 (c_isMissing0_74 l D y ad M hz.2.2.2.2.2.2.2.2.2.2.2.2.2.1) (List.mem_of_getElem? (i := 38) rfl) aw_643 aw_35 (by decide +kernel) ⟨by decide, by decide⟩ rfl (Nat.le_of_ble_eq_true rfl) ⟨by decide, by decide⟩ dX7_judge_22 ?_
      rintro r_ M1_ ⟨rfl, rfl⟩
      refine j_if_eq X 35 (by decide) dX7_judge_25 (fun c_5 => False.elim (by revert c_5; decide)) (fun c_5 => ?_)
      refine j_aload_n X 1 rfl rfl dX7_judge_28 ?_
      refine j_ldc X (v := (-1000000002)) aw_560 dX7_judge_29 ?_
      refine j_callVI X (nn := 1) (As := [.int (-1000000002)]) (st := []) (ci := 7) (by decide) (wE_7 _ rfl) rfl aw_117 aw_118 (c_X7_refuse l D y ad M (-1000000002) 2 (by decide) (by decide)) aw_116 aw_119 aw_2 (by decide +kernel) ⟨by decide, by decide⟩ rfl (Nat.le_of_ble_eq_true rfl) ⟨by decide, by decide⟩ dX7_judge_31 ?_
      rintro r_ M1_ ⟨rfl, rfl⟩
      exact j_iret X hr hlocks dX7_judge_34 (by unfold sp_judge; (repeat' split) <;> first | rfl | omega | (exfalso; omega))
    · refine j_aald11 X (by decide) rfl (by unfold vp_in; decide) dX7_judge_19 ?_
      refine j_eqr (v := 76) rfl ?_
      refine j_astore_n X [(2, .ref (ad 76)), (0, .ref (ad 0)), (1, .int 3)] rfl (by decide) rfl dX7_judge_20 ?_
      refine j_aload_n X 0 rfl rfl dX7_judge_21 ?_
      refine j_callVNI X (nn := 0) (As := []) (st := []) (ci := 3) (by decide) (wE_3 _ rfl) rfl aw_641 aw_642 (c_isMissing0_76 l D y ad M hz.2.2.2.2.2.2.2.2.2.2.2.2.2.2.1) (List.mem_of_getElem? (i := 38) rfl) aw_643 aw_35 (by decide +kernel) ⟨by decide, by decide⟩ rfl (Nat.le_of_ble_eq_true rfl) ⟨by decide, by decide⟩ dX7_judge_22 ?_
      rintro r_ M1_ ⟨rfl, rfl⟩
      refine j_if_eq X 35 (by decide) dX7_judge_25 (fun c_6 => False.elim (by revert c_6; decide)) (fun c_6 => ?_)
      refine j_aload_n X 1 rfl rfl dX7_judge_28 ?_
      refine j_ldc X (v := (-1000000002)) aw_560 dX7_judge_29 ?_
      refine j_callVI X (nn := 1) (As := [.int (-1000000002)]) (st := []) (ci := 7) (by decide) (wE_7 _ rfl) rfl aw_117 aw_118 (c_X7_refuse l D y ad M (-1000000002) 2 (by decide) (by decide)) aw_116 aw_119 aw_2 (by decide +kernel) ⟨by decide, by decide⟩ rfl (Nat.le_of_ble_eq_true rfl) ⟨by decide, by decide⟩ dX7_judge_31 ?_
      rintro r_ M1_ ⟨rfl, rfl⟩
      exact j_iret X hr hlocks dX7_judge_34 (by unfold sp_judge; (repeat' split) <;> first | rfl | omega | (exfalso; omega))
  · refine j_if_ne X 14 (by decide) dX7_judge_4 (fun c_7 => False.elim (by revert c_7; decide)) (fun c_7 => ?_)
    refine j_aload_n X 0 rfl rfl dX7_judge_7 ?_
    refine j_ldc X (v := (-1000000001)) aw_108 dX7_judge_8 ?_
    refine j_callVI X (nn := 1) (As := [.int (-1000000001)]) (st := []) (ci := 7) (by decide) (wE_7 _ rfl) rfl aw_117 aw_118 (c_X7_refuse l D y ad M (-1000000001) 1 (by decide) (by decide)) aw_116 aw_119 aw_2 (by decide +kernel) ⟨by decide, by decide⟩ rfl (Nat.le_of_ble_eq_true rfl) ⟨by decide, by decide⟩ dX7_judge_10 ?_
    rintro r_ M1_ ⟨rfl, rfl⟩
    exact j_iret X hr hlocks dX7_judge_13 (by unfold sp_judge; (repeat' split) <;> first | rfl | omega | (exfalso; omega))
set_option maxRecDepth 100000 in
set_option maxHeartbeats 4000000 in
theorem c0_X7_sparks (l : Launch) (D : va_G) (y : wY) (ad : Nat → Nat) (M : Mem) (hz : Z0 M) (s what : Int32) : MI l D y ad yX7_sparks (Cond.code yX7_sparks cX7_sparks 6 (some .int)) 6 M [.ref (ad 0), .int s, .int what] (fun r _ => sp_sparks s what = r) := by
  refine MI_of (by decide) (Nat.le_of_ble_eq_true rfl) ?_
  intro p e s m args below meth c X hr hlocks
  refine j_lv (lv1 := [(0, .ref (ad 0)), (1, .int s), (2, .int what)]) [0, 1, 2] rfl ?_
  refine j_iload_n X 1 rfl rfl dX7_sparks_0 ?_
  refine j_callSI X (nn := 1) (As := [.int s]) (st := []) aw_639 (c_X7_isSheet l D y ad M s) aw_638 aw_640 aw_2 (by decide +kernel) ⟨by decide, by decide⟩ rfl (Nat.le_of_ble_eq_true rfl) ⟨by decide, by decide⟩ dX7_sparks_1 ?_
  rintro r_ M1_ (⟨rfl, rfl, h_1⟩ | ⟨rfl, rfl, h_1⟩)
  · refine j_if_eq X 16 (by decide) dX7_sparks_4 (fun c_2 => False.elim (by revert c_2; decide)) (fun c_2 => ?_)
    refine j_iload_n X 2 rfl rfl dX7_sparks_7 ?_
    refine j_iconst X (v := 0) (by decide) dX7_sparks_8 ?_
    refine j_iconst X (v := 1) (by decide) dX7_sparks_9 ?_
    refine j_callSI X (nn := 3) (As := [.int what, .int 0, .int 1]) (st := []) aw_110 (c_X7_isWithin l D y ad M what 0 1 0 1 (by decide) (by decide)) aw_109 aw_111 aw_2 (by decide +kernel) ⟨by decide, by decide⟩ rfl (Nat.le_of_ble_eq_true rfl) ⟨by decide, by decide⟩ dX7_sparks_10 ?_
    rintro r_ M1_ (⟨rfl, rfl, h_3⟩ | ⟨rfl, rfl, h_3⟩)
    · refine j_if_ne X 23 (by decide) dX7_sparks_13 (fun c_4 => ?_) (fun c_4 => False.elim (by revert c_4; decide))
      refine j_aload_n X 0 rfl rfl dX7_sparks_23 ?_
      refine j_get X (by decide) (wE_7 _ rfl) rfl awF7 5 (by decide) aw_31 rfl (v := .ref (ad 69)) rfl dX7_sparks_24 ?_
      refine j_iload_n X 1 rfl rfl dX7_sparks_27 ?_
      rcases is_0_3 h_1 with rfl | rfl | rfl | rfl
      · refine j_aald11 X (by decide) rfl (by unfold vp_in; decide) dX7_sparks_28 ?_
        refine j_eqr (v := 70) rfl ?_
        refine j_astore_n X [(3, .ref (ad 70)), (0, .ref (ad 0)), (1, .int 0), (2, .int what)] rfl (by decide) rfl dX7_sparks_29 ?_
        refine j_aload_n X 0 rfl rfl dX7_sparks_30 ?_
        refine j_callVNI X (nn := 0) (As := []) (st := []) (ci := 3) (by decide) (wE_3 _ rfl) rfl aw_641 aw_642 (c_isMissing0_70 l D y ad M hz.2.2.2.2.2.2.2.2.2.2.2.1) (List.mem_of_getElem? (i := 38) rfl) aw_643 aw_35 (by decide +kernel) ⟨by decide, by decide⟩ rfl (Nat.le_of_ble_eq_true rfl) ⟨by decide, by decide⟩ dX7_sparks_31 ?_
        rintro r_ M1_ ⟨rfl, rfl⟩
        refine j_if_ne X 54 (by decide) dX7_sparks_34 (fun c_5 => ?_) (fun c_5 => False.elim (by revert c_5; decide))
        refine j_aload_n X 1 rfl rfl dX7_sparks_54 ?_
        refine j_ldc X (v := (-1000000002)) aw_560 dX7_sparks_55 ?_
        refine j_callVI X (nn := 1) (As := [.int (-1000000002)]) (st := []) (ci := 7) (by decide) (wE_7 _ rfl) rfl aw_117 aw_118 (c_X7_refuse l D y ad M (-1000000002) 2 (by decide) (by decide)) aw_116 aw_119 aw_2 (by decide +kernel) ⟨by decide, by decide⟩ rfl (Nat.le_of_ble_eq_true rfl) ⟨by decide, by decide⟩ dX7_sparks_57 ?_
        rintro r_ M1_ ⟨rfl, rfl⟩
        exact j_iret X hr hlocks dX7_sparks_60 (by unfold sp_sparks; (repeat' split) <;> first | rfl | omega | (exfalso; omega))
      · refine j_aald11 X (by decide) rfl (by unfold vp_in; decide) dX7_sparks_28 ?_
        refine j_eqr (v := 72) rfl ?_
        refine j_astore_n X [(3, .ref (ad 72)), (0, .ref (ad 0)), (1, .int 1), (2, .int what)] rfl (by decide) rfl dX7_sparks_29 ?_
        refine j_aload_n X 0 rfl rfl dX7_sparks_30 ?_
        refine j_callVNI X (nn := 0) (As := []) (st := []) (ci := 3) (by decide) (wE_3 _ rfl) rfl aw_641 aw_642 (c_isMissing0_72 l D y ad M hz.2.2.2.2.2.2.2.2.2.2.2.2.1) (List.mem_of_getElem? (i := 38) rfl) aw_643 aw_35 (by decide +kernel) ⟨by decide, by decide⟩ rfl (Nat.le_of_ble_eq_true rfl) ⟨by decide, by decide⟩ dX7_sparks_31 ?_
        rintro r_ M1_ ⟨rfl, rfl⟩
        refine j_if_ne X 54 (by decide) dX7_sparks_34 (fun c_6 => ?_) (fun c_6 => False.elim (by revert c_6; decide))
        refine j_aload_n X 1 rfl rfl dX7_sparks_54 ?_
        refine j_ldc X (v := (-1000000002)) aw_560 dX7_sparks_55 ?_
        refine j_callVI X (nn := 1) (As := [.int (-1000000002)]) (st := []) (ci := 7) (by decide) (wE_7 _ rfl) rfl aw_117 aw_118 (c_X7_refuse l D y ad M (-1000000002) 2 (by decide) (by decide)) aw_116 aw_119 aw_2 (by decide +kernel) ⟨by decide, by decide⟩ rfl (Nat.le_of_ble_eq_true rfl) ⟨by decide, by decide⟩ dX7_sparks_57 ?_
        rintro r_ M1_ ⟨rfl, rfl⟩
        exact j_iret X hr hlocks dX7_sparks_60 (by unfold sp_sparks; (repeat' split) <;> first | rfl | omega | (exfalso; omega))
      · refine j_aald11 X (by decide) rfl (by unfold vp_in; decide) dX7_sparks_28 ?_
        refine j_eqr (v := 74) rfl ?_
        refine j_astore_n X [(3, .ref (ad 74)), (0, .ref (ad 0)), (1, .int 2), (2, .int what)] rfl (by decide) rfl dX7_sparks_29 ?_
        refine j_aload_n X 0 rfl rfl dX7_sparks_30 ?_
        refine j_callVNI X (nn := 0) (As := []) (st := []) (ci := 3) (by decide) (wE_3 _ rfl) rfl aw_641 aw_642 (c_isMissing0_74 l D y ad M hz.2.2.2.2.2.2.2.2.2.2.2.2.2.1) (List.mem_of_getElem? (i := 38) rfl) aw_643 aw_35 (by decide +kernel) ⟨by decide, by decide⟩ rfl (Nat.le_of_ble_eq_true rfl) ⟨by decide, by decide⟩ dX7_sparks_31 ?_
        rintro r_ M1_ ⟨rfl, rfl⟩
        refine j_if_ne X 54 (by decide) dX7_sparks_34 (fun c_7 => ?_) (fun c_7 => False.elim (by revert c_7; decide))
        refine j_aload_n X 1 rfl rfl dX7_sparks_54 ?_
        refine j_ldc X (v := (-1000000002)) aw_560 dX7_sparks_55 ?_
        refine j_callVI X (nn := 1) (As := [.int (-1000000002)]) (st := []) (ci := 7) (by decide) (wE_7 _ rfl) rfl aw_117 aw_118 (c_X7_refuse l D y ad M (-1000000002) 2 (by decide) (by decide)) aw_116 aw_119 aw_2 (by decide +kernel) ⟨by decide, by decide⟩ rfl (Nat.le_of_ble_eq_true rfl) ⟨by decide, by decide⟩ dX7_sparks_57 ?_
        rintro r_ M1_ ⟨rfl, rfl⟩
        exact j_iret X hr hlocks dX7_sparks_60 (by unfold sp_sparks; (repeat' split) <;> first | rfl | omega | (exfalso; omega))
      · refine j_aald11 X (by decide) rfl (by unfold vp_in; decide) dX7_sparks_28 ?_
        refine j_eqr (v := 76) rfl ?_
        refine j_astore_n X [(3, .ref (ad 76)), (0, .ref (ad 0)), (1, .int 3), (2, .int what)] rfl (by decide) rfl dX7_sparks_29 ?_
        refine j_aload_n X 0 rfl rfl dX7_sparks_30 ?_
        refine j_callVNI X (nn := 0) (As := []) (st := []) (ci := 3) (by decide) (wE_3 _ rfl) rfl aw_641 aw_642 (c_isMissing0_76 l D y ad M hz.2.2.2.2.2.2.2.2.2.2.2.2.2.2.1) (List.mem_of_getElem? (i := 38) rfl) aw_643 aw_35 (by decide +kernel) ⟨by decide, by decide⟩ rfl (Nat.le_of_ble_eq_true rfl) ⟨by decide, by decide⟩ dX7_sparks_31 ?_
        rintro r_ M1_ ⟨rfl, rfl⟩
        refine j_if_ne X 54 (by decide) dX7_sparks_34 (fun c_8 => ?_) (fun c_8 => False.elim (by revert c_8; decide))
        refine j_aload_n X 1 rfl rfl dX7_sparks_54 ?_
        refine j_ldc X (v := (-1000000002)) aw_560 dX7_sparks_55 ?_
        refine j_callVI X (nn := 1) (As := [.int (-1000000002)]) (st := []) (ci := 7) (by decide) (wE_7 _ rfl) rfl aw_117 aw_118 (c_X7_refuse l D y ad M (-1000000002) 2 (by decide) (by decide)) aw_116 aw_119 aw_2 (by decide +kernel) ⟨by decide, by decide⟩ rfl (Nat.le_of_ble_eq_true rfl) ⟨by decide, by decide⟩ dX7_sparks_57 ?_
        rintro r_ M1_ ⟨rfl, rfl⟩
        exact j_iret X hr hlocks dX7_sparks_60 (by unfold sp_sparks; (repeat' split) <;> first | rfl | omega | (exfalso; omega))
    · refine j_if_ne X 23 (by decide) dX7_sparks_13 (fun c_9 => False.elim (by revert c_9; decide)) (fun c_9 => ?_)
      refine j_aload_n X 0 rfl rfl dX7_sparks_16 ?_
      refine j_ldc X (v := (-1000000001)) aw_108 dX7_sparks_17 ?_
      refine j_callVI X (nn := 1) (As := [.int (-1000000001)]) (st := []) (ci := 7) (by decide) (wE_7 _ rfl) rfl aw_117 aw_118 (c_X7_refuse l D y ad M (-1000000001) 1 (by decide) (by decide)) aw_116 aw_119 aw_2 (by decide +kernel) ⟨by decide, by decide⟩ rfl (Nat.le_of_ble_eq_true rfl) ⟨by decide, by decide⟩ dX7_sparks_19 ?_
      rintro r_ M1_ ⟨rfl, rfl⟩
      exact j_iret X hr hlocks dX7_sparks_22 (by unfold sp_sparks; (repeat' split) <;> first | rfl | omega | (exfalso; omega))
  · refine j_if_eq X 16 (by decide) dX7_sparks_4 (fun c_10 => ?_) (fun c_10 => False.elim (by revert c_10; decide))
    refine j_aload_n X 0 rfl rfl dX7_sparks_16 ?_
    refine j_ldc X (v := (-1000000001)) aw_108 dX7_sparks_17 ?_
    refine j_callVI X (nn := 1) (As := [.int (-1000000001)]) (st := []) (ci := 7) (by decide) (wE_7 _ rfl) rfl aw_117 aw_118 (c_X7_refuse l D y ad M (-1000000001) 1 (by decide) (by decide)) aw_116 aw_119 aw_2 (by decide +kernel) ⟨by decide, by decide⟩ rfl (Nat.le_of_ble_eq_true rfl) ⟨by decide, by decide⟩ dX7_sparks_19 ?_
    rintro r_ M1_ ⟨rfl, rfl⟩
    exact j_iret X hr hlocks dX7_sparks_22 (by unfold sp_sparks; (repeat' split) <;> first | rfl | omega | (exfalso; omega))
set_option maxRecDepth 100000 in
set_option maxHeartbeats 4000000 in
theorem c0_X7_move (l : Launch) (D : va_G) (y : wY) (ad : Nat → Nat) (M : Mem) (hz : Z0 M) (s i o j n : Int32) : MI l D y ad yX7_move (Cond.code yX7_move cX7_move 8 (some .int)) 6 M [.ref (ad 0), .int s, .int i, .int o, .int j, .int n] (fun r _ => sp_move s i o j n = r) := by
  refine MI_of (by decide) (Nat.le_of_ble_eq_true rfl) ?_
  intro p e s m args below meth c X hr hlocks
  refine j_lv (lv1 := [(0, .ref (ad 0)), (1, .int s), (2, .int i), (3, .int o), (4, .int j), (5, .int n)]) [0, 1, 2, 3, 4, 5] rfl ?_
  refine j_iload_n X 1 rfl rfl dX7_move_0 ?_
  refine j_callSI X (nn := 1) (As := [.int s]) (st := []) aw_639 (c_X7_isSheet l D y ad M s) aw_638 aw_640 aw_2 (by decide +kernel) ⟨by decide, by decide⟩ rfl (Nat.le_of_ble_eq_true rfl) ⟨by decide, by decide⟩ dX7_move_1 ?_
  rintro r_ M1_ (⟨rfl, rfl, h_1⟩ | ⟨rfl, rfl, h_1⟩)
  · refine j_if_eq X 14 (by decide) dX7_move_4 (fun c_2 => False.elim (by revert c_2; decide)) (fun c_2 => ?_)
    refine j_iload_n X 3 rfl rfl dX7_move_7 ?_
    refine j_callSI X (nn := 1) (As := [.int o]) (st := []) aw_639 (c_X7_isSheet l D y ad M o) aw_638 aw_640 aw_2 (by decide +kernel) ⟨by decide, by decide⟩ rfl (Nat.le_of_ble_eq_true rfl) ⟨by decide, by decide⟩ dX7_move_8 ?_
    rintro r_ M1_ (⟨rfl, rfl, h_3⟩ | ⟨rfl, rfl, h_3⟩)
    · refine j_if_ne X 21 (by decide) dX7_move_11 (fun c_4 => ?_) (fun c_4 => False.elim (by revert c_4; decide))
      refine j_aload_n X 0 rfl rfl dX7_move_21 ?_
      refine j_get X (by decide) (wE_7 _ rfl) rfl awF7 5 (by decide) aw_31 rfl (v := .ref (ad 69)) rfl dX7_move_22 ?_
      refine j_iload_n X 1 rfl rfl dX7_move_25 ?_
      rcases is_0_3 h_1 with rfl | rfl | rfl | rfl
      · refine j_aald11 X (by decide) rfl (by unfold vp_in; decide) dX7_move_26 ?_
        refine j_eqr (v := 70) rfl ?_
        refine j_astore X [(6, .ref (ad 70)), (0, .ref (ad 0)), (1, .int 0), (2, .int i), (3, .int o), (4, .int j), (5, .int n)] (by decide) rfl dX7_move_27 ?_
        refine j_aload_n X 1 rfl rfl dX7_move_29 ?_
        refine j_get X (by decide) (wE_7 _ rfl) rfl awF7 5 (by decide) aw_31 rfl (v := .ref (ad 69)) rfl dX7_move_30 ?_
        refine j_iload_n X 4 rfl rfl dX7_move_33 ?_
        rcases is_0_3 h_3 with rfl | rfl | rfl | rfl
        · refine j_aald11 X (by decide) rfl (by unfold vp_in; decide) dX7_move_34 ?_
          refine j_eqr (v := 70) rfl ?_
          refine j_astore X [(7, .ref (ad 70)), (6, .ref (ad 70)), (0, .ref (ad 0)), (1, .int 0), (2, .int i), (3, .int 0), (4, .int j), (5, .int n)] (by decide) rfl dX7_move_35 ?_
          refine j_aload X 1 rfl dX7_move_37 ?_
          refine j_callVNI X (nn := 0) (As := []) (st := []) (ci := 3) (by decide) (wE_3 _ rfl) rfl aw_641 aw_642 (c_isMissing0_70 l D y ad M hz.2.2.2.2.2.2.2.2.2.2.2.1) (List.mem_of_getElem? (i := 38) rfl) aw_643 aw_35 (by decide +kernel) ⟨by decide, by decide⟩ rfl (Nat.le_of_ble_eq_true rfl) ⟨by decide, by decide⟩ dX7_move_39 ?_
          rintro r_ M1_ ⟨rfl, rfl⟩
          refine j_if_ne X 53 (by decide) dX7_move_42 (fun c_5 => ?_) (fun c_5 => False.elim (by revert c_5; decide))
          refine j_aload_n X 2 rfl rfl dX7_move_53 ?_
          refine j_ldc X (v := (-1000000002)) aw_560 dX7_move_54 ?_
          refine j_callVI X (nn := 1) (As := [.int (-1000000002)]) (st := []) (ci := 7) (by decide) (wE_7 _ rfl) rfl aw_117 aw_118 (c_X7_refuse l D y ad M (-1000000002) 2 (by decide) (by decide)) aw_116 aw_119 aw_2 (by decide +kernel) ⟨by decide, by decide⟩ rfl (Nat.le_of_ble_eq_true rfl) ⟨by decide, by decide⟩ dX7_move_56 ?_
          rintro r_ M1_ ⟨rfl, rfl⟩
          exact j_iret X hr hlocks dX7_move_59 (by unfold sp_move; (repeat' split) <;> first | rfl | omega | (exfalso; omega))
        · refine j_aald11 X (by decide) rfl (by unfold vp_in; decide) dX7_move_34 ?_
          refine j_eqr (v := 72) rfl ?_
          refine j_astore X [(7, .ref (ad 72)), (6, .ref (ad 70)), (0, .ref (ad 0)), (1, .int 0), (2, .int i), (3, .int 1), (4, .int j), (5, .int n)] (by decide) rfl dX7_move_35 ?_
          refine j_aload X 1 rfl dX7_move_37 ?_
          refine j_callVNI X (nn := 0) (As := []) (st := []) (ci := 3) (by decide) (wE_3 _ rfl) rfl aw_641 aw_642 (c_isMissing0_70 l D y ad M hz.2.2.2.2.2.2.2.2.2.2.2.1) (List.mem_of_getElem? (i := 38) rfl) aw_643 aw_35 (by decide +kernel) ⟨by decide, by decide⟩ rfl (Nat.le_of_ble_eq_true rfl) ⟨by decide, by decide⟩ dX7_move_39 ?_
          rintro r_ M1_ ⟨rfl, rfl⟩
          refine j_if_ne X 53 (by decide) dX7_move_42 (fun c_6 => ?_) (fun c_6 => False.elim (by revert c_6; decide))
          refine j_aload_n X 2 rfl rfl dX7_move_53 ?_
          refine j_ldc X (v := (-1000000002)) aw_560 dX7_move_54 ?_
          refine j_callVI X (nn := 1) (As := [.int (-1000000002)]) (st := []) (ci := 7) (by decide) (wE_7 _ rfl) rfl aw_117 aw_118 (c_X7_refuse l D y ad M (-1000000002) 2 (by decide) (by decide)) aw_116 aw_119 aw_2 (by decide +kernel) ⟨by decide, by decide⟩ rfl (Nat.le_of_ble_eq_true rfl) ⟨by decide, by decide⟩ dX7_move_56 ?_
          rintro r_ M1_ ⟨rfl, rfl⟩
          exact j_iret X hr hlocks dX7_move_59 (by unfold sp_move; (repeat' split) <;> first | rfl | omega | (exfalso; omega))
        · refine j_aald11 X (by decide) rfl (by unfold vp_in; decide) dX7_move_34 ?_
          refine j_eqr (v := 74) rfl ?_
          refine j_astore X [(7, .ref (ad 74)), (6, .ref (ad 70)), (0, .ref (ad 0)), (1, .int 0), (2, .int i), (3, .int 2), (4, .int j), (5, .int n)] (by decide) rfl dX7_move_35 ?_
          refine j_aload X 1 rfl dX7_move_37 ?_
          refine j_callVNI X (nn := 0) (As := []) (st := []) (ci := 3) (by decide) (wE_3 _ rfl) rfl aw_641 aw_642 (c_isMissing0_70 l D y ad M hz.2.2.2.2.2.2.2.2.2.2.2.1) (List.mem_of_getElem? (i := 38) rfl) aw_643 aw_35 (by decide +kernel) ⟨by decide, by decide⟩ rfl (Nat.le_of_ble_eq_true rfl) ⟨by decide, by decide⟩ dX7_move_39 ?_
          rintro r_ M1_ ⟨rfl, rfl⟩
          refine j_if_ne X 53 (by decide) dX7_move_42 (fun c_7 => ?_) (fun c_7 => False.elim (by revert c_7; decide))
          refine j_aload_n X 2 rfl rfl dX7_move_53 ?_
          refine j_ldc X (v := (-1000000002)) aw_560 dX7_move_54 ?_
          refine j_callVI X (nn := 1) (As := [.int (-1000000002)]) (st := []) (ci := 7) (by decide) (wE_7 _ rfl) rfl aw_117 aw_118 (c_X7_refuse l D y ad M (-1000000002) 2 (by decide) (by decide)) aw_116 aw_119 aw_2 (by decide +kernel) ⟨by decide, by decide⟩ rfl (Nat.le_of_ble_eq_true rfl) ⟨by decide, by decide⟩ dX7_move_56 ?_
          rintro r_ M1_ ⟨rfl, rfl⟩
          exact j_iret X hr hlocks dX7_move_59 (by unfold sp_move; (repeat' split) <;> first | rfl | omega | (exfalso; omega))
        · refine j_aald11 X (by decide) rfl (by unfold vp_in; decide) dX7_move_34 ?_
          refine j_eqr (v := 76) rfl ?_
          refine j_astore X [(7, .ref (ad 76)), (6, .ref (ad 70)), (0, .ref (ad 0)), (1, .int 0), (2, .int i), (3, .int 3), (4, .int j), (5, .int n)] (by decide) rfl dX7_move_35 ?_
          refine j_aload X 1 rfl dX7_move_37 ?_
          refine j_callVNI X (nn := 0) (As := []) (st := []) (ci := 3) (by decide) (wE_3 _ rfl) rfl aw_641 aw_642 (c_isMissing0_70 l D y ad M hz.2.2.2.2.2.2.2.2.2.2.2.1) (List.mem_of_getElem? (i := 38) rfl) aw_643 aw_35 (by decide +kernel) ⟨by decide, by decide⟩ rfl (Nat.le_of_ble_eq_true rfl) ⟨by decide, by decide⟩ dX7_move_39 ?_
          rintro r_ M1_ ⟨rfl, rfl⟩
          refine j_if_ne X 53 (by decide) dX7_move_42 (fun c_8 => ?_) (fun c_8 => False.elim (by revert c_8; decide))
          refine j_aload_n X 2 rfl rfl dX7_move_53 ?_
          refine j_ldc X (v := (-1000000002)) aw_560 dX7_move_54 ?_
          refine j_callVI X (nn := 1) (As := [.int (-1000000002)]) (st := []) (ci := 7) (by decide) (wE_7 _ rfl) rfl aw_117 aw_118 (c_X7_refuse l D y ad M (-1000000002) 2 (by decide) (by decide)) aw_116 aw_119 aw_2 (by decide +kernel) ⟨by decide, by decide⟩ rfl (Nat.le_of_ble_eq_true rfl) ⟨by decide, by decide⟩ dX7_move_56 ?_
          rintro r_ M1_ ⟨rfl, rfl⟩
          exact j_iret X hr hlocks dX7_move_59 (by unfold sp_move; (repeat' split) <;> first | rfl | omega | (exfalso; omega))
      · refine j_aald11 X (by decide) rfl (by unfold vp_in; decide) dX7_move_26 ?_
        refine j_eqr (v := 72) rfl ?_
        refine j_astore X [(6, .ref (ad 72)), (0, .ref (ad 0)), (1, .int 1), (2, .int i), (3, .int o), (4, .int j), (5, .int n)] (by decide) rfl dX7_move_27 ?_
        refine j_aload_n X 1 rfl rfl dX7_move_29 ?_
        refine j_get X (by decide) (wE_7 _ rfl) rfl awF7 5 (by decide) aw_31 rfl (v := .ref (ad 69)) rfl dX7_move_30 ?_
        refine j_iload_n X 4 rfl rfl dX7_move_33 ?_
        rcases is_0_3 h_3 with rfl | rfl | rfl | rfl
        · refine j_aald11 X (by decide) rfl (by unfold vp_in; decide) dX7_move_34 ?_
          refine j_eqr (v := 70) rfl ?_
          refine j_astore X [(7, .ref (ad 70)), (6, .ref (ad 72)), (0, .ref (ad 0)), (1, .int 1), (2, .int i), (3, .int 0), (4, .int j), (5, .int n)] (by decide) rfl dX7_move_35 ?_
          refine j_aload X 1 rfl dX7_move_37 ?_
          refine j_callVNI X (nn := 0) (As := []) (st := []) (ci := 3) (by decide) (wE_3 _ rfl) rfl aw_641 aw_642 (c_isMissing0_72 l D y ad M hz.2.2.2.2.2.2.2.2.2.2.2.2.1) (List.mem_of_getElem? (i := 38) rfl) aw_643 aw_35 (by decide +kernel) ⟨by decide, by decide⟩ rfl (Nat.le_of_ble_eq_true rfl) ⟨by decide, by decide⟩ dX7_move_39 ?_
          rintro r_ M1_ ⟨rfl, rfl⟩
          refine j_if_ne X 53 (by decide) dX7_move_42 (fun c_9 => ?_) (fun c_9 => False.elim (by revert c_9; decide))
          refine j_aload_n X 2 rfl rfl dX7_move_53 ?_
          refine j_ldc X (v := (-1000000002)) aw_560 dX7_move_54 ?_
          refine j_callVI X (nn := 1) (As := [.int (-1000000002)]) (st := []) (ci := 7) (by decide) (wE_7 _ rfl) rfl aw_117 aw_118 (c_X7_refuse l D y ad M (-1000000002) 2 (by decide) (by decide)) aw_116 aw_119 aw_2 (by decide +kernel) ⟨by decide, by decide⟩ rfl (Nat.le_of_ble_eq_true rfl) ⟨by decide, by decide⟩ dX7_move_56 ?_
          rintro r_ M1_ ⟨rfl, rfl⟩
          exact j_iret X hr hlocks dX7_move_59 (by unfold sp_move; (repeat' split) <;> first | rfl | omega | (exfalso; omega))
        · refine j_aald11 X (by decide) rfl (by unfold vp_in; decide) dX7_move_34 ?_
          refine j_eqr (v := 72) rfl ?_
          refine j_astore X [(7, .ref (ad 72)), (6, .ref (ad 72)), (0, .ref (ad 0)), (1, .int 1), (2, .int i), (3, .int 1), (4, .int j), (5, .int n)] (by decide) rfl dX7_move_35 ?_
          refine j_aload X 1 rfl dX7_move_37 ?_
          refine j_callVNI X (nn := 0) (As := []) (st := []) (ci := 3) (by decide) (wE_3 _ rfl) rfl aw_641 aw_642 (c_isMissing0_72 l D y ad M hz.2.2.2.2.2.2.2.2.2.2.2.2.1) (List.mem_of_getElem? (i := 38) rfl) aw_643 aw_35 (by decide +kernel) ⟨by decide, by decide⟩ rfl (Nat.le_of_ble_eq_true rfl) ⟨by decide, by decide⟩ dX7_move_39 ?_
          rintro r_ M1_ ⟨rfl, rfl⟩
          refine j_if_ne X 53 (by decide) dX7_move_42 (fun c_10 => ?_) (fun c_10 => False.elim (by revert c_10; decide))
          refine j_aload_n X 2 rfl rfl dX7_move_53 ?_
          refine j_ldc X (v := (-1000000002)) aw_560 dX7_move_54 ?_
          refine j_callVI X (nn := 1) (As := [.int (-1000000002)]) (st := []) (ci := 7) (by decide) (wE_7 _ rfl) rfl aw_117 aw_118 (c_X7_refuse l D y ad M (-1000000002) 2 (by decide) (by decide)) aw_116 aw_119 aw_2 (by decide +kernel) ⟨by decide, by decide⟩ rfl (Nat.le_of_ble_eq_true rfl) ⟨by decide, by decide⟩ dX7_move_56 ?_
          rintro r_ M1_ ⟨rfl, rfl⟩
          exact j_iret X hr hlocks dX7_move_59 (by unfold sp_move; (repeat' split) <;> first | rfl | omega | (exfalso; omega))
        · refine j_aald11 X (by decide) rfl (by unfold vp_in; decide) dX7_move_34 ?_
          refine j_eqr (v := 74) rfl ?_
          refine j_astore X [(7, .ref (ad 74)), (6, .ref (ad 72)), (0, .ref (ad 0)), (1, .int 1), (2, .int i), (3, .int 2), (4, .int j), (5, .int n)] (by decide) rfl dX7_move_35 ?_
          refine j_aload X 1 rfl dX7_move_37 ?_
          refine j_callVNI X (nn := 0) (As := []) (st := []) (ci := 3) (by decide) (wE_3 _ rfl) rfl aw_641 aw_642 (c_isMissing0_72 l D y ad M hz.2.2.2.2.2.2.2.2.2.2.2.2.1) (List.mem_of_getElem? (i := 38) rfl) aw_643 aw_35 (by decide +kernel) ⟨by decide, by decide⟩ rfl (Nat.le_of_ble_eq_true rfl) ⟨by decide, by decide⟩ dX7_move_39 ?_
          rintro r_ M1_ ⟨rfl, rfl⟩
          refine j_if_ne X 53 (by decide) dX7_move_42 (fun c_11 => ?_) (fun c_11 => False.elim (by revert c_11; decide))
          refine j_aload_n X 2 rfl rfl dX7_move_53 ?_
          refine j_ldc X (v := (-1000000002)) aw_560 dX7_move_54 ?_
          refine j_callVI X (nn := 1) (As := [.int (-1000000002)]) (st := []) (ci := 7) (by decide) (wE_7 _ rfl) rfl aw_117 aw_118 (c_X7_refuse l D y ad M (-1000000002) 2 (by decide) (by decide)) aw_116 aw_119 aw_2 (by decide +kernel) ⟨by decide, by decide⟩ rfl (Nat.le_of_ble_eq_true rfl) ⟨by decide, by decide⟩ dX7_move_56 ?_
          rintro r_ M1_ ⟨rfl, rfl⟩
          exact j_iret X hr hlocks dX7_move_59 (by unfold sp_move; (repeat' split) <;> first | rfl | omega | (exfalso; omega))
        · refine j_aald11 X (by decide) rfl (by unfold vp_in; decide) dX7_move_34 ?_
          refine j_eqr (v := 76) rfl ?_
          refine j_astore X [(7, .ref (ad 76)), (6, .ref (ad 72)), (0, .ref (ad 0)), (1, .int 1), (2, .int i), (3, .int 3), (4, .int j), (5, .int n)] (by decide) rfl dX7_move_35 ?_
          refine j_aload X 1 rfl dX7_move_37 ?_
          refine j_callVNI X (nn := 0) (As := []) (st := []) (ci := 3) (by decide) (wE_3 _ rfl) rfl aw_641 aw_642 (c_isMissing0_72 l D y ad M hz.2.2.2.2.2.2.2.2.2.2.2.2.1) (List.mem_of_getElem? (i := 38) rfl) aw_643 aw_35 (by decide +kernel) ⟨by decide, by decide⟩ rfl (Nat.le_of_ble_eq_true rfl) ⟨by decide, by decide⟩ dX7_move_39 ?_
          rintro r_ M1_ ⟨rfl, rfl⟩
          refine j_if_ne X 53 (by decide) dX7_move_42 (fun c_12 => ?_) (fun c_12 => False.elim (by revert c_12; decide))
          refine j_aload_n X 2 rfl rfl dX7_move_53 ?_
          refine j_ldc X (v := (-1000000002)) aw_560 dX7_move_54 ?_
          refine j_callVI X (nn := 1) (As := [.int (-1000000002)]) (st := []) (ci := 7) (by decide) (wE_7 _ rfl) rfl aw_117 aw_118 (c_X7_refuse l D y ad M (-1000000002) 2 (by decide) (by decide)) aw_116 aw_119 aw_2 (by decide +kernel) ⟨by decide, by decide⟩ rfl (Nat.le_of_ble_eq_true rfl) ⟨by decide, by decide⟩ dX7_move_56 ?_
          rintro r_ M1_ ⟨rfl, rfl⟩
          exact j_iret X hr hlocks dX7_move_59 (by unfold sp_move; (repeat' split) <;> first | rfl | omega | (exfalso; omega))
      · refine j_aald11 X (by decide) rfl (by unfold vp_in; decide) dX7_move_26 ?_
        refine j_eqr (v := 74) rfl ?_
        refine j_astore X [(6, .ref (ad 74)), (0, .ref (ad 0)), (1, .int 2), (2, .int i), (3, .int o), (4, .int j), (5, .int n)] (by decide) rfl dX7_move_27 ?_
        refine j_aload_n X 1 rfl rfl dX7_move_29 ?_
        refine j_get X (by decide) (wE_7 _ rfl) rfl awF7 5 (by decide) aw_31 rfl (v := .ref (ad 69)) rfl dX7_move_30 ?_
        refine j_iload_n X 4 rfl rfl dX7_move_33 ?_
        rcases is_0_3 h_3 with rfl | rfl | rfl | rfl
        · refine j_aald11 X (by decide) rfl (by unfold vp_in; decide) dX7_move_34 ?_
          refine j_eqr (v := 70) rfl ?_
          refine j_astore X [(7, .ref (ad 70)), (6, .ref (ad 74)), (0, .ref (ad 0)), (1, .int 2), (2, .int i), (3, .int 0), (4, .int j), (5, .int n)] (by decide) rfl dX7_move_35 ?_
          refine j_aload X 1 rfl dX7_move_37 ?_
          refine j_callVNI X (nn := 0) (As := []) (st := []) (ci := 3) (by decide) (wE_3 _ rfl) rfl aw_641 aw_642 (c_isMissing0_74 l D y ad M hz.2.2.2.2.2.2.2.2.2.2.2.2.2.1) (List.mem_of_getElem? (i := 38) rfl) aw_643 aw_35 (by decide +kernel) ⟨by decide, by decide⟩ rfl (Nat.le_of_ble_eq_true rfl) ⟨by decide, by decide⟩ dX7_move_39 ?_
          rintro r_ M1_ ⟨rfl, rfl⟩
          refine j_if_ne X 53 (by decide) dX7_move_42 (fun c_13 => ?_) (fun c_13 => False.elim (by revert c_13; decide))
          refine j_aload_n X 2 rfl rfl dX7_move_53 ?_
          refine j_ldc X (v := (-1000000002)) aw_560 dX7_move_54 ?_
          refine j_callVI X (nn := 1) (As := [.int (-1000000002)]) (st := []) (ci := 7) (by decide) (wE_7 _ rfl) rfl aw_117 aw_118 (c_X7_refuse l D y ad M (-1000000002) 2 (by decide) (by decide)) aw_116 aw_119 aw_2 (by decide +kernel) ⟨by decide, by decide⟩ rfl (Nat.le_of_ble_eq_true rfl) ⟨by decide, by decide⟩ dX7_move_56 ?_
          rintro r_ M1_ ⟨rfl, rfl⟩
          exact j_iret X hr hlocks dX7_move_59 (by unfold sp_move; (repeat' split) <;> first | rfl | omega | (exfalso; omega))
        · refine j_aald11 X (by decide) rfl (by unfold vp_in; decide) dX7_move_34 ?_
          refine j_eqr (v := 72) rfl ?_
          refine j_astore X [(7, .ref (ad 72)), (6, .ref (ad 74)), (0, .ref (ad 0)), (1, .int 2), (2, .int i), (3, .int 1), (4, .int j), (5, .int n)] (by decide) rfl dX7_move_35 ?_
          refine j_aload X 1 rfl dX7_move_37 ?_
          refine j_callVNI X (nn := 0) (As := []) (st := []) (ci := 3) (by decide) (wE_3 _ rfl) rfl aw_641 aw_642 (c_isMissing0_74 l D y ad M hz.2.2.2.2.2.2.2.2.2.2.2.2.2.1) (List.mem_of_getElem? (i := 38) rfl) aw_643 aw_35 (by decide +kernel) ⟨by decide, by decide⟩ rfl (Nat.le_of_ble_eq_true rfl) ⟨by decide, by decide⟩ dX7_move_39 ?_
          rintro r_ M1_ ⟨rfl, rfl⟩
          refine j_if_ne X 53 (by decide) dX7_move_42 (fun c_14 => ?_) (fun c_14 => False.elim (by revert c_14; decide))
          refine j_aload_n X 2 rfl rfl dX7_move_53 ?_
          refine j_ldc X (v := (-1000000002)) aw_560 dX7_move_54 ?_
          refine j_callVI X (nn := 1) (As := [.int (-1000000002)]) (st := []) (ci := 7) (by decide) (wE_7 _ rfl) rfl aw_117 aw_118 (c_X7_refuse l D y ad M (-1000000002) 2 (by decide) (by decide)) aw_116 aw_119 aw_2 (by decide +kernel) ⟨by decide, by decide⟩ rfl (Nat.le_of_ble_eq_true rfl) ⟨by decide, by decide⟩ dX7_move_56 ?_
          rintro r_ M1_ ⟨rfl, rfl⟩
          exact j_iret X hr hlocks dX7_move_59 (by unfold sp_move; (repeat' split) <;> first | rfl | omega | (exfalso; omega))
        · refine j_aald11 X (by decide) rfl (by unfold vp_in; decide) dX7_move_34 ?_
          refine j_eqr (v := 74) rfl ?_
          refine j_astore X [(7, .ref (ad 74)), (6, .ref (ad 74)), (0, .ref (ad 0)), (1, .int 2), (2, .int i), (3, .int 2), (4, .int j), (5, .int n)] (by decide) rfl dX7_move_35 ?_
          refine j_aload X 1 rfl dX7_move_37 ?_
          refine j_callVNI X (nn := 0) (As := []) (st := []) (ci := 3) (by decide) (wE_3 _ rfl) rfl aw_641 aw_642 (c_isMissing0_74 l D y ad M hz.2.2.2.2.2.2.2.2.2.2.2.2.2.1) (List.mem_of_getElem? (i := 38) rfl) aw_643 aw_35 (by decide +kernel) ⟨by decide, by decide⟩ rfl (Nat.le_of_ble_eq_true rfl) ⟨by decide, by decide⟩ dX7_move_39 ?_
          rintro r_ M1_ ⟨rfl, rfl⟩
          refine j_if_ne X 53 (by decide) dX7_move_42 (fun c_15 => ?_) (fun c_15 => False.elim (by revert c_15; decide))
          refine j_aload_n X 2 rfl rfl dX7_move_53 ?_
          refine j_ldc X (v := (-1000000002)) aw_560 dX7_move_54 ?_
          refine j_callVI X (nn := 1) (As := [.int (-1000000002)]) (st := []) (ci := 7) (by decide) (wE_7 _ rfl) rfl aw_117 aw_118 (c_X7_refuse l D y ad M (-1000000002) 2 (by decide) (by decide)) aw_116 aw_119 aw_2 (by decide +kernel) ⟨by decide, by decide⟩ rfl (Nat.le_of_ble_eq_true rfl) ⟨by decide, by decide⟩ dX7_move_56 ?_
          rintro r_ M1_ ⟨rfl, rfl⟩
          exact j_iret X hr hlocks dX7_move_59 (by unfold sp_move; (repeat' split) <;> first | rfl | omega | (exfalso; omega))
        · refine j_aald11 X (by decide) rfl (by unfold vp_in; decide) dX7_move_34 ?_
          refine j_eqr (v := 76) rfl ?_
          refine j_astore X [(7, .ref (ad 76)), (6, .ref (ad 74)), (0, .ref (ad 0)), (1, .int 2), (2, .int i), (3, .int 3), (4, .int j), (5, .int n)] (by decide) rfl dX7_move_35 ?_
          refine j_aload X 1 rfl dX7_move_37 ?_
          refine j_callVNI X (nn := 0) (As := []) (st := []) (ci := 3) (by decide) (wE_3 _ rfl) rfl aw_641 aw_642 (c_isMissing0_74 l D y ad M hz.2.2.2.2.2.2.2.2.2.2.2.2.2.1) (List.mem_of_getElem? (i := 38) rfl) aw_643 aw_35 (by decide +kernel) ⟨by decide, by decide⟩ rfl (Nat.le_of_ble_eq_true rfl) ⟨by decide, by decide⟩ dX7_move_39 ?_
          rintro r_ M1_ ⟨rfl, rfl⟩
          refine j_if_ne X 53 (by decide) dX7_move_42 (fun c_16 => ?_) (fun c_16 => False.elim (by revert c_16; decide))
          refine j_aload_n X 2 rfl rfl dX7_move_53 ?_
          refine j_ldc X (v := (-1000000002)) aw_560 dX7_move_54 ?_
          refine j_callVI X (nn := 1) (As := [.int (-1000000002)]) (st := []) (ci := 7) (by decide) (wE_7 _ rfl) rfl aw_117 aw_118 (c_X7_refuse l D y ad M (-1000000002) 2 (by decide) (by decide)) aw_116 aw_119 aw_2 (by decide +kernel) ⟨by decide, by decide⟩ rfl (Nat.le_of_ble_eq_true rfl) ⟨by decide, by decide⟩ dX7_move_56 ?_
          rintro r_ M1_ ⟨rfl, rfl⟩
          exact j_iret X hr hlocks dX7_move_59 (by unfold sp_move; (repeat' split) <;> first | rfl | omega | (exfalso; omega))
      · refine j_aald11 X (by decide) rfl (by unfold vp_in; decide) dX7_move_26 ?_
        refine j_eqr (v := 76) rfl ?_
        refine j_astore X [(6, .ref (ad 76)), (0, .ref (ad 0)), (1, .int 3), (2, .int i), (3, .int o), (4, .int j), (5, .int n)] (by decide) rfl dX7_move_27 ?_
        refine j_aload_n X 1 rfl rfl dX7_move_29 ?_
        refine j_get X (by decide) (wE_7 _ rfl) rfl awF7 5 (by decide) aw_31 rfl (v := .ref (ad 69)) rfl dX7_move_30 ?_
        refine j_iload_n X 4 rfl rfl dX7_move_33 ?_
        rcases is_0_3 h_3 with rfl | rfl | rfl | rfl
        · refine j_aald11 X (by decide) rfl (by unfold vp_in; decide) dX7_move_34 ?_
          refine j_eqr (v := 70) rfl ?_
          refine j_astore X [(7, .ref (ad 70)), (6, .ref (ad 76)), (0, .ref (ad 0)), (1, .int 3), (2, .int i), (3, .int 0), (4, .int j), (5, .int n)] (by decide) rfl dX7_move_35 ?_
          refine j_aload X 1 rfl dX7_move_37 ?_
          refine j_callVNI X (nn := 0) (As := []) (st := []) (ci := 3) (by decide) (wE_3 _ rfl) rfl aw_641 aw_642 (c_isMissing0_76 l D y ad M hz.2.2.2.2.2.2.2.2.2.2.2.2.2.2.1) (List.mem_of_getElem? (i := 38) rfl) aw_643 aw_35 (by decide +kernel) ⟨by decide, by decide⟩ rfl (Nat.le_of_ble_eq_true rfl) ⟨by decide, by decide⟩ dX7_move_39 ?_
          rintro r_ M1_ ⟨rfl, rfl⟩
          refine j_if_ne X 53 (by decide) dX7_move_42 (fun c_17 => ?_) (fun c_17 => False.elim (by revert c_17; decide))
          refine j_aload_n X 2 rfl rfl dX7_move_53 ?_
          refine j_ldc X (v := (-1000000002)) aw_560 dX7_move_54 ?_
          refine j_callVI X (nn := 1) (As := [.int (-1000000002)]) (st := []) (ci := 7) (by decide) (wE_7 _ rfl) rfl aw_117 aw_118 (c_X7_refuse l D y ad M (-1000000002) 2 (by decide) (by decide)) aw_116 aw_119 aw_2 (by decide +kernel) ⟨by decide, by decide⟩ rfl (Nat.le_of_ble_eq_true rfl) ⟨by decide, by decide⟩ dX7_move_56 ?_
          rintro r_ M1_ ⟨rfl, rfl⟩
          exact j_iret X hr hlocks dX7_move_59 (by unfold sp_move; (repeat' split) <;> first | rfl | omega | (exfalso; omega))
        · refine j_aald11 X (by decide) rfl (by unfold vp_in; decide) dX7_move_34 ?_
          refine j_eqr (v := 72) rfl ?_
          refine j_astore X [(7, .ref (ad 72)), (6, .ref (ad 76)), (0, .ref (ad 0)), (1, .int 3), (2, .int i), (3, .int 1), (4, .int j), (5, .int n)] (by decide) rfl dX7_move_35 ?_
          refine j_aload X 1 rfl dX7_move_37 ?_
          refine j_callVNI X (nn := 0) (As := []) (st := []) (ci := 3) (by decide) (wE_3 _ rfl) rfl aw_641 aw_642 (c_isMissing0_76 l D y ad M hz.2.2.2.2.2.2.2.2.2.2.2.2.2.2.1) (List.mem_of_getElem? (i := 38) rfl) aw_643 aw_35 (by decide +kernel) ⟨by decide, by decide⟩ rfl (Nat.le_of_ble_eq_true rfl) ⟨by decide, by decide⟩ dX7_move_39 ?_
          rintro r_ M1_ ⟨rfl, rfl⟩
          refine j_if_ne X 53 (by decide) dX7_move_42 (fun c_18 => ?_) (fun c_18 => False.elim (by revert c_18; decide))
          refine j_aload_n X 2 rfl rfl dX7_move_53 ?_
          refine j_ldc X (v := (-1000000002)) aw_560 dX7_move_54 ?_
          refine j_callVI X (nn := 1) (As := [.int (-1000000002)]) (st := []) (ci := 7) (by decide) (wE_7 _ rfl) rfl aw_117 aw_118 (c_X7_refuse l D y ad M (-1000000002) 2 (by decide) (by decide)) aw_116 aw_119 aw_2 (by decide +kernel) ⟨by decide, by decide⟩ rfl (Nat.le_of_ble_eq_true rfl) ⟨by decide, by decide⟩ dX7_move_56 ?_
          rintro r_ M1_ ⟨rfl, rfl⟩
          exact j_iret X hr hlocks dX7_move_59 (by unfold sp_move; (repeat' split) <;> first | rfl | omega | (exfalso; omega))
        · refine j_aald11 X (by decide) rfl (by unfold vp_in; decide) dX7_move_34 ?_
          refine j_eqr (v := 74) rfl ?_
          refine j_astore X [(7, .ref (ad 74)), (6, .ref (ad 76)), (0, .ref (ad 0)), (1, .int 3), (2, .int i), (3, .int 2), (4, .int j), (5, .int n)] (by decide) rfl dX7_move_35 ?_
          refine j_aload X 1 rfl dX7_move_37 ?_
          refine j_callVNI X (nn := 0) (As := []) (st := []) (ci := 3) (by decide) (wE_3 _ rfl) rfl aw_641 aw_642 (c_isMissing0_76 l D y ad M hz.2.2.2.2.2.2.2.2.2.2.2.2.2.2.1) (List.mem_of_getElem? (i := 38) rfl) aw_643 aw_35 (by decide +kernel) ⟨by decide, by decide⟩ rfl (Nat.le_of_ble_eq_true rfl) ⟨by decide, by decide⟩ dX7_move_39 ?_
          rintro r_ M1_ ⟨rfl, rfl⟩
          refine j_if_ne X 53 (by decide) dX7_move_42 (fun c_19 => ?_) (fun c_19 => False.elim (by revert c_19; decide))
          refine j_aload_n X 2 rfl rfl dX7_move_53 ?_
          refine j_ldc X (v := (-1000000002)) aw_560 dX7_move_54 ?_
          refine j_callVI X (nn := 1) (As := [.int (-1000000002)]) (st := []) (ci := 7) (by decide) (wE_7 _ rfl) rfl aw_117 aw_118 (c_X7_refuse l D y ad M (-1000000002) 2 (by decide) (by decide)) aw_116 aw_119 aw_2 (by decide +kernel) ⟨by decide, by decide⟩ rfl (Nat.le_of_ble_eq_true rfl) ⟨by decide, by decide⟩ dX7_move_56 ?_
          rintro r_ M1_ ⟨rfl, rfl⟩
          exact j_iret X hr hlocks dX7_move_59 (by unfold sp_move; (repeat' split) <;> first | rfl | omega | (exfalso; omega))
        · refine j_aald11 X (by decide) rfl (by unfold vp_in; decide) dX7_move_34 ?_
          refine j_eqr (v := 76) rfl ?_
          refine j_astore X [(7, .ref (ad 76)), (6, .ref (ad 76)), (0, .ref (ad 0)), (1, .int 3), (2, .int i), (3, .int 3), (4, .int j), (5, .int n)] (by decide) rfl dX7_move_35 ?_
          refine j_aload X 1 rfl dX7_move_37 ?_
          refine j_callVNI X (nn := 0) (As := []) (st := []) (ci := 3) (by decide) (wE_3 _ rfl) rfl aw_641 aw_642 (c_isMissing0_76 l D y ad M hz.2.2.2.2.2.2.2.2.2.2.2.2.2.2.1) (List.mem_of_getElem? (i := 38) rfl) aw_643 aw_35 (by decide +kernel) ⟨by decide, by decide⟩ rfl (Nat.le_of_ble_eq_true rfl) ⟨by decide, by decide⟩ dX7_move_39 ?_
          rintro r_ M1_ ⟨rfl, rfl⟩
          refine j_if_ne X 53 (by decide) dX7_move_42 (fun c_20 => ?_) (fun c_20 => False.elim (by revert c_20; decide))
          refine j_aload_n X 2 rfl rfl dX7_move_53 ?_
          refine j_ldc X (v := (-1000000002)) aw_560 dX7_move_54 ?_
          refine j_callVI X (nn := 1) (As := [.int (-1000000002)]) (st := []) (ci := 7) (by decide) (wE_7 _ rfl) rfl aw_117 aw_118 (c_X7_refuse l D y ad M (-1000000002) 2 (by decide) (by decide)) aw_116 aw_119 aw_2 (by decide +kernel) ⟨by decide, by decide⟩ rfl (Nat.le_of_ble_eq_true rfl) ⟨by decide, by decide⟩ dX7_move_56 ?_
          rintro r_ M1_ ⟨rfl, rfl⟩
          exact j_iret X hr hlocks dX7_move_59 (by unfold sp_move; (repeat' split) <;> first | rfl | omega | (exfalso; omega))
    · refine j_if_ne X 21 (by decide) dX7_move_11 (fun c_21 => False.elim (by revert c_21; decide)) (fun c_21 => ?_)
      refine j_aload_n X 0 rfl rfl dX7_move_14 ?_
      refine j_ldc X (v := (-1000000001)) aw_108 dX7_move_15 ?_
      refine j_callVI X (nn := 1) (As := [.int (-1000000001)]) (st := []) (ci := 7) (by decide) (wE_7 _ rfl) rfl aw_117 aw_118 (c_X7_refuse l D y ad M (-1000000001) 1 (by decide) (by decide)) aw_116 aw_119 aw_2 (by decide +kernel) ⟨by decide, by decide⟩ rfl (Nat.le_of_ble_eq_true rfl) ⟨by decide, by decide⟩ dX7_move_17 ?_
      rintro r_ M1_ ⟨rfl, rfl⟩
      exact j_iret X hr hlocks dX7_move_20 (by unfold sp_move; (repeat' split) <;> first | rfl | omega | (exfalso; omega))
  · refine j_if_eq X 14 (by decide) dX7_move_4 (fun c_22 => ?_) (fun c_22 => False.elim (by revert c_22; decide))
    refine j_aload_n X 0 rfl rfl dX7_move_14 ?_
    refine j_ldc X (v := (-1000000001)) aw_108 dX7_move_15 ?_
    refine j_callVI X (nn := 1) (As := [.int (-1000000001)]) (st := []) (ci := 7) (by decide) (wE_7 _ rfl) rfl aw_117 aw_118 (c_X7_refuse l D y ad M (-1000000001) 1 (by decide) (by decide)) aw_116 aw_119 aw_2 (by decide +kernel) ⟨by decide, by decide⟩ rfl (Nat.le_of_ble_eq_true rfl) ⟨by decide, by decide⟩ dX7_move_17 ?_
    rintro r_ M1_ ⟨rfl, rfl⟩
    exact j_iret X hr hlocks dX7_move_20 (by unfold sp_move; (repeat' split) <;> first | rfl | omega | (exfalso; omega))
set_option maxRecDepth 100000 in
set_option maxHeartbeats 4000000 in
theorem c_lay_70 (l : Launch) (D : va_G) (y : wY) (ad : Nat → Nat) (M : Mem) (b n : Int32) : MV l D y ad yX3_lay (Cond.code yX3_lay cX3_lay 4 none) 0 M [.ref (ad 70), .int b, .int n] (fun _ => True) := by
  refine MV_of (by decide) (Nat.le_of_ble_eq_true rfl) ?_
  intro p e s m args below meth c X hr hlocks
  refine j_lv (lv1 := [(0, .ref (ad 70)), (1, .int b), (2, .int n)]) [0, 1, 2] rfl ?_
  refine j_aload_n X 0 rfl rfl dX3_lay_0 ?_
  refine j_iload_n X 1 rfl rfl dX3_lay_1 ?_
  refine j_put X (up M 70 1 b) up_o (by decide) (wE_3 _ rfl) rfl awF3 1 (by decide) (wP_3_1 _ _ rfl) tyX3 tyX3_ok nmX3 rfl (ty := .int) (by decide +kernel) rfl rfl (Nat.le_of_ble_eq_true rfl) aw_644 rfl dX3_lay_2 ?_
  refine j_aload_n X 0 rfl rfl dX3_lay_5 ?_
  refine j_iload_n X 2 rfl rfl dX3_lay_6 ?_
  refine j_put X (up (up M 70 1 b) 70 2 n) up_o (by decide) (wE_3 _ rfl) rfl awF3 2 (by decide) (wP_3_2 _ _ rfl) tyX3 tyX3_ok nmX3 rfl (ty := .int) (by decide +kernel) rfl rfl (Nat.le_of_ble_eq_true rfl) aw_815 rfl dX3_lay_7 ?_
  refine j_iconst X (v := 0) (by decide) dX3_lay_10 ?_
  refine j_istore_n X [(3, .int 0), (0, .ref (ad 70)), (1, .int b), (2, .int n)] rfl (by decide) rfl dX3_lay_11 ?_
  have loop1 : ∀ (n_1 i_1 : Nat) (M1 : Mem), i_1 ≤ 40 → 40 - i_1 < n_1 → sm (fun b _ => b == 70 || b == 71) (up (up M 70 1 b) 70 2 n) M1 → J p l e (rmN 0) s m args below meth c 0 0 (QV (fun _ => True) D y ad M s args below) D y ad (va_A (PL y ad M) s.heap.size) 4 M1 12 [(3, .int (nI i_1)), (0, .ref (ad 70)), (1, .int b), (2, .int n)] [] := by
    intro n_1
    induction n_1 with
    | zero => intro i_1 M1 h1 h2; exact absurd h2 (by omega)
    | succ n_1 ih1 =>
      intro i_1 M1 h1i_1 h2i_1 hs1
      refine j_iload_n X 0 rfl rfl dX3_lay_12 ?_
      refine j_bipush X (v := 40) (by decide) dX3_lay_13 ?_
      refine j_icmp_ge X 31 (by decide) dX3_lay_15 (fun c_2 => ?_) (fun c_2 => ?_)
      · have c_2 := (nI_leI (by omega) (by omega)).mp (show nI (40) ≤ nI i_1 from c_2)
        exact j_vret X hr hlocks dX3_lay_31 trivial
      · have c_2 : i_1 < 40 := by
          rcases Nat.lt_or_ge i_1 (40) with g | g
          · exact g
          · exact absurd (show nI (40) ≤ nI i_1 from nI_le g (by omega)) c_2
        refine j_aload_n X 1 rfl rfl dX3_lay_18 ?_
        refine j_get X (by decide) (wE_3 _ rfl) rfl awF3 0 (by decide) aw_87 rfl (v := .ref (ad 71)) rfl dX3_lay_19 ?_
        refine j_iload_n X 0 rfl rfl dX3_lay_22 ?_
        refine j_iconst X (v := 0) (by decide) dX3_lay_23 ?_
        refine j_iast X (by decide) rfl (show vp_in (nI i_1) 40 from vp_in_nI (by omega) (by decide)) dX3_lay_24 ?_
        refine j_eqM (M1 := (up M1 71 i_1 0)) (by rw [nI_clamp (by omega)]) ?_
        refine j_iinc X (v := (nI (i_1 + 1))) 0 [(3, .int (nI (i_1 + 1))), (0, .ref (ad 70)), (1, .int b), (2, .int n)] rfl (nI_1 i_1) (by decide) rfl dX3_lay_25 ?_
        refine j_goto X 12 (by decide) dX3_lay_28 ?_
        refine j_lv (lv1 := [(3, .int (nI (i_1 + 1))), (0, .ref (ad 70)), (1, .int b), (2, .int n)]) [0, 1, 2, 3] rfl ?_
        exact ih1 (i_1 + 1) _ (by omega) (by omega) (sm_up hs1 rfl)
  refine j_lv (lv1 := [(3, .int (nI 0)), (0, .ref (ad 70)), (1, .int b), (2, .int n)]) [0, 1, 2, 3] rfl ?_
  exact loop1 (40 + 1) 0 _ (by omega) (by omega) sm_rf
set_option maxRecDepth 100000 in
set_option maxHeartbeats 4000000 in
theorem c_lay_72 (l : Launch) (D : va_G) (y : wY) (ad : Nat → Nat) (M : Mem) (b n : Int32) : MV l D y ad yX3_lay (Cond.code yX3_lay cX3_lay 4 none) 0 M [.ref (ad 72), .int b, .int n] (fun _ => True) := by
  refine MV_of (by decide) (Nat.le_of_ble_eq_true rfl) ?_
  intro p e s m args below meth c X hr hlocks
  refine j_lv (lv1 := [(0, .ref (ad 72)), (1, .int b), (2, .int n)]) [0, 1, 2] rfl ?_
  refine j_aload_n X 0 rfl rfl dX3_lay_0 ?_
  refine j_iload_n X 1 rfl rfl dX3_lay_1 ?_
  refine j_put X (up M 72 1 b) up_o (by decide) (wE_3 _ rfl) rfl awF3 1 (by decide) (wP_3_1 _ _ rfl) tyX3 tyX3_ok nmX3 rfl (ty := .int) (by decide +kernel) rfl rfl (Nat.le_of_ble_eq_true rfl) aw_644 rfl dX3_lay_2 ?_
  refine j_aload_n X 0 rfl rfl dX3_lay_5 ?_
  refine j_iload_n X 2 rfl rfl dX3_lay_6 ?_
  refine j_put X (up (up M 72 1 b) 72 2 n) up_o (by decide) (wE_3 _ rfl) rfl awF3 2 (by decide) (wP_3_2 _ _ rfl) tyX3 tyX3_ok nmX3 rfl (ty := .int) (by decide +kernel) rfl rfl (Nat.le_of_ble_eq_true rfl) aw_815 rfl dX3_lay_7 ?_
  refine j_iconst X (v := 0) (by decide) dX3_lay_10 ?_
  refine j_istore_n X [(3, .int 0), (0, .ref (ad 72)), (1, .int b), (2, .int n)] rfl (by decide) rfl dX3_lay_11 ?_
  have loop1 : ∀ (n_1 i_1 : Nat) (M1 : Mem), i_1 ≤ 40 → 40 - i_1 < n_1 → sm (fun b _ => b == 72 || b == 73) (up (up M 72 1 b) 72 2 n) M1 → J p l e (rmN 0) s m args below meth c 0 0 (QV (fun _ => True) D y ad M s args below) D y ad (va_A (PL y ad M) s.heap.size) 4 M1 12 [(3, .int (nI i_1)), (0, .ref (ad 72)), (1, .int b), (2, .int n)] [] := by
    intro n_1
    induction n_1 with
    | zero => intro i_1 M1 h1 h2; exact absurd h2 (by omega)
    | succ n_1 ih1 =>
      intro i_1 M1 h1i_1 h2i_1 hs1
      refine j_iload_n X 0 rfl rfl dX3_lay_12 ?_
      refine j_bipush X (v := 40) (by decide) dX3_lay_13 ?_
      refine j_icmp_ge X 31 (by decide) dX3_lay_15 (fun c_2 => ?_) (fun c_2 => ?_)
      · have c_2 := (nI_leI (by omega) (by omega)).mp (show nI (40) ≤ nI i_1 from c_2)
        exact j_vret X hr hlocks dX3_lay_31 trivial
      · have c_2 : i_1 < 40 := by
          rcases Nat.lt_or_ge i_1 (40) with g | g
          · exact g
          · exact absurd (show nI (40) ≤ nI i_1 from nI_le g (by omega)) c_2
        refine j_aload_n X 1 rfl rfl dX3_lay_18 ?_
        refine j_get X (by decide) (wE_3 _ rfl) rfl awF3 0 (by decide) aw_87 rfl (v := .ref (ad 73)) rfl dX3_lay_19 ?_
        refine j_iload_n X 0 rfl rfl dX3_lay_22 ?_
        refine j_iconst X (v := 0) (by decide) dX3_lay_23 ?_
        refine j_iast X (by decide) rfl (show vp_in (nI i_1) 40 from vp_in_nI (by omega) (by decide)) dX3_lay_24 ?_
        refine j_eqM (M1 := (up M1 73 i_1 0)) (by rw [nI_clamp (by omega)]) ?_
        refine j_iinc X (v := (nI (i_1 + 1))) 0 [(3, .int (nI (i_1 + 1))), (0, .ref (ad 72)), (1, .int b), (2, .int n)] rfl (nI_1 i_1) (by decide) rfl dX3_lay_25 ?_
        refine j_goto X 12 (by decide) dX3_lay_28 ?_
        refine j_lv (lv1 := [(3, .int (nI (i_1 + 1))), (0, .ref (ad 72)), (1, .int b), (2, .int n)]) [0, 1, 2, 3] rfl ?_
        exact ih1 (i_1 + 1) _ (by omega) (by omega) (sm_up hs1 rfl)
  refine j_lv (lv1 := [(3, .int (nI 0)), (0, .ref (ad 72)), (1, .int b), (2, .int n)]) [0, 1, 2, 3] rfl ?_
  exact loop1 (40 + 1) 0 _ (by omega) (by omega) sm_rf
set_option maxRecDepth 100000 in
set_option maxHeartbeats 4000000 in
theorem c_lay_74 (l : Launch) (D : va_G) (y : wY) (ad : Nat → Nat) (M : Mem) (b n : Int32) : MV l D y ad yX3_lay (Cond.code yX3_lay cX3_lay 4 none) 0 M [.ref (ad 74), .int b, .int n] (fun _ => True) := by
  refine MV_of (by decide) (Nat.le_of_ble_eq_true rfl) ?_
  intro p e s m args below meth c X hr hlocks
  refine j_lv (lv1 := [(0, .ref (ad 74)), (1, .int b), (2, .int n)]) [0, 1, 2] rfl ?_
  refine j_aload_n X 0 rfl rfl dX3_lay_0 ?_
  refine j_iload_n X 1 rfl rfl dX3_lay_1 ?_
  refine j_put X (up M 74 1 b) up_o (by decide) (wE_3 _ rfl) rfl awF3 1 (by decide) (wP_3_1 _ _ rfl) tyX3 tyX3_ok nmX3 rfl (ty := .int) (by decide +kernel) rfl rfl (Nat.le_of_ble_eq_true rfl) aw_644 rfl dX3_lay_2 ?_
  refine j_aload_n X 0 rfl rfl dX3_lay_5 ?_
  refine j_iload_n X 2 rfl rfl dX3_lay_6 ?_
  refine j_put X (up (up M 74 1 b) 74 2 n) up_o (by decide) (wE_3 _ rfl) rfl awF3 2 (by decide) (wP_3_2 _ _ rfl) tyX3 tyX3_ok nmX3 rfl (ty := .int) (by decide +kernel) rfl rfl (Nat.le_of_ble_eq_true rfl) aw_815 rfl dX3_lay_7 ?_
  refine j_iconst X (v := 0) (by decide) dX3_lay_10 ?_
  refine j_istore_n X [(3, .int 0), (0, .ref (ad 74)), (1, .int b), (2, .int n)] rfl (by decide) rfl dX3_lay_11 ?_
  have loop1 : ∀ (n_1 i_1 : Nat) (M1 : Mem), i_1 ≤ 40 → 40 - i_1 < n_1 → sm (fun b _ => b == 74 || b == 75) (up (up M 74 1 b) 74 2 n) M1 → J p l e (rmN 0) s m args below meth c 0 0 (QV (fun _ => True) D y ad M s args below) D y ad (va_A (PL y ad M) s.heap.size) 4 M1 12 [(3, .int (nI i_1)), (0, .ref (ad 74)), (1, .int b), (2, .int n)] [] := by
    intro n_1
    induction n_1 with
    | zero => intro i_1 M1 h1 h2; exact absurd h2 (by omega)
    | succ n_1 ih1 =>
      intro i_1 M1 h1i_1 h2i_1 hs1
      refine j_iload_n X 0 rfl rfl dX3_lay_12 ?_
      refine j_bipush X (v := 40) (by decide) dX3_lay_13 ?_
      refine j_icmp_ge X 31 (by decide) dX3_lay_15 (fun c_2 => ?_) (fun c_2 => ?_)
      · have c_2 := (nI_leI (by omega) (by omega)).mp (show nI (40) ≤ nI i_1 from c_2)
        exact j_vret X hr hlocks dX3_lay_31 trivial
      · have c_2 : i_1 < 40 := by
          rcases Nat.lt_or_ge i_1 (40) with g | g
          · exact g
          · exact absurd (show nI (40) ≤ nI i_1 from nI_le g (by omega)) c_2
        refine j_aload_n X 1 rfl rfl dX3_lay_18 ?_
        refine j_get X (by decide) (wE_3 _ rfl) rfl awF3 0 (by decide) aw_87 rfl (v := .ref (ad 75)) rfl dX3_lay_19 ?_
        refine j_iload_n X 0 rfl rfl dX3_lay_22 ?_
        refine j_iconst X (v := 0) (by decide) dX3_lay_23 ?_
        refine j_iast X (by decide) rfl (show vp_in (nI i_1) 40 from vp_in_nI (by omega) (by decide)) dX3_lay_24 ?_
        refine j_eqM (M1 := (up M1 75 i_1 0)) (by rw [nI_clamp (by omega)]) ?_
        refine j_iinc X (v := (nI (i_1 + 1))) 0 [(3, .int (nI (i_1 + 1))), (0, .ref (ad 74)), (1, .int b), (2, .int n)] rfl (nI_1 i_1) (by decide) rfl dX3_lay_25 ?_
        refine j_goto X 12 (by decide) dX3_lay_28 ?_
        refine j_lv (lv1 := [(3, .int (nI (i_1 + 1))), (0, .ref (ad 74)), (1, .int b), (2, .int n)]) [0, 1, 2, 3] rfl ?_
        exact ih1 (i_1 + 1) _ (by omega) (by omega) (sm_up hs1 rfl)
  refine j_lv (lv1 := [(3, .int (nI 0)), (0, .ref (ad 74)), (1, .int b), (2, .int n)]) [0, 1, 2, 3] rfl ?_
  exact loop1 (40 + 1) 0 _ (by omega) (by omega) sm_rf
set_option maxRecDepth 100000 in
set_option maxHeartbeats 4000000 in
theorem c_lay_76 (l : Launch) (D : va_G) (y : wY) (ad : Nat → Nat) (M : Mem) (b n : Int32) : MV l D y ad yX3_lay (Cond.code yX3_lay cX3_lay 4 none) 0 M [.ref (ad 76), .int b, .int n] (fun _ => True) := by
  refine MV_of (by decide) (Nat.le_of_ble_eq_true rfl) ?_
  intro p e s m args below meth c X hr hlocks
  refine j_lv (lv1 := [(0, .ref (ad 76)), (1, .int b), (2, .int n)]) [0, 1, 2] rfl ?_
  refine j_aload_n X 0 rfl rfl dX3_lay_0 ?_
  refine j_iload_n X 1 rfl rfl dX3_lay_1 ?_
  refine j_put X (up M 76 1 b) up_o (by decide) (wE_3 _ rfl) rfl awF3 1 (by decide) (wP_3_1 _ _ rfl) tyX3 tyX3_ok nmX3 rfl (ty := .int) (by decide +kernel) rfl rfl (Nat.le_of_ble_eq_true rfl) aw_644 rfl dX3_lay_2 ?_
  refine j_aload_n X 0 rfl rfl dX3_lay_5 ?_
  refine j_iload_n X 2 rfl rfl dX3_lay_6 ?_
  refine j_put X (up (up M 76 1 b) 76 2 n) up_o (by decide) (wE_3 _ rfl) rfl awF3 2 (by decide) (wP_3_2 _ _ rfl) tyX3 tyX3_ok nmX3 rfl (ty := .int) (by decide +kernel) rfl rfl (Nat.le_of_ble_eq_true rfl) aw_815 rfl dX3_lay_7 ?_
  refine j_iconst X (v := 0) (by decide) dX3_lay_10 ?_
  refine j_istore_n X [(3, .int 0), (0, .ref (ad 76)), (1, .int b), (2, .int n)] rfl (by decide) rfl dX3_lay_11 ?_
  have loop1 : ∀ (n_1 i_1 : Nat) (M1 : Mem), i_1 ≤ 40 → 40 - i_1 < n_1 → sm (fun b _ => b == 76 || b == 77) (up (up M 76 1 b) 76 2 n) M1 → J p l e (rmN 0) s m args below meth c 0 0 (QV (fun _ => True) D y ad M s args below) D y ad (va_A (PL y ad M) s.heap.size) 4 M1 12 [(3, .int (nI i_1)), (0, .ref (ad 76)), (1, .int b), (2, .int n)] [] := by
    intro n_1
    induction n_1 with
    | zero => intro i_1 M1 h1 h2; exact absurd h2 (by omega)
    | succ n_1 ih1 =>
      intro i_1 M1 h1i_1 h2i_1 hs1
      refine j_iload_n X 0 rfl rfl dX3_lay_12 ?_
      refine j_bipush X (v := 40) (by decide) dX3_lay_13 ?_
      refine j_icmp_ge X 31 (by decide) dX3_lay_15 (fun c_2 => ?_) (fun c_2 => ?_)
      · have c_2 := (nI_leI (by omega) (by omega)).mp (show nI (40) ≤ nI i_1 from c_2)
        exact j_vret X hr hlocks dX3_lay_31 trivial
      · have c_2 : i_1 < 40 := by
          rcases Nat.lt_or_ge i_1 (40) with g | g
          · exact g
          · exact absurd (show nI (40) ≤ nI i_1 from nI_le g (by omega)) c_2
        refine j_aload_n X 1 rfl rfl dX3_lay_18 ?_
        refine j_get X (by decide) (wE_3 _ rfl) rfl awF3 0 (by decide) aw_87 rfl (v := .ref (ad 77)) rfl dX3_lay_19 ?_
        refine j_iload_n X 0 rfl rfl dX3_lay_22 ?_
        refine j_iconst X (v := 0) (by decide) dX3_lay_23 ?_
        refine j_iast X (by decide) rfl (show vp_in (nI i_1) 40 from vp_in_nI (by omega) (by decide)) dX3_lay_24 ?_
        refine j_eqM (M1 := (up M1 77 i_1 0)) (by rw [nI_clamp (by omega)]) ?_
        refine j_iinc X (v := (nI (i_1 + 1))) 0 [(3, .int (nI (i_1 + 1))), (0, .ref (ad 76)), (1, .int b), (2, .int n)] rfl (nI_1 i_1) (by decide) rfl dX3_lay_25 ?_
        refine j_goto X 12 (by decide) dX3_lay_28 ?_
        refine j_lv (lv1 := [(3, .int (nI (i_1 + 1))), (0, .ref (ad 76)), (1, .int b), (2, .int n)]) [0, 1, 2, 3] rfl ?_
        exact ih1 (i_1 + 1) _ (by omega) (by omega) (sm_up hs1 rfl)
  refine j_lv (lv1 := [(3, .int (nI 0)), (0, .ref (ad 76)), (1, .int b), (2, .int n)]) [0, 1, 2, 3] rfl ?_
  exact loop1 (40 + 1) 0 _ (by omega) (by omega) sm_rf
set_option maxRecDepth 100000 in
set_option maxHeartbeats 4000000 in
theorem c0_X7_sheet (l : Launch) (D : va_G) (y : wY) (ad : Nat → Nat) (M : Mem) (hz : Z0 M) (s bits n : Int32) : MI l D y ad yX7_sheet (Cond.code yX7_sheet cX7_sheet 4 (some .int)) 6 M [.ref (ad 0), .int s, .int bits, .int n] (fun r _ => sp_sheet s bits n = r) := by
  refine MI_of (by decide) (Nat.le_of_ble_eq_true rfl) ?_
  intro p e s m args below meth c X hr hlocks
  refine j_lv (lv1 := [(0, .ref (ad 0)), (1, .int s), (2, .int bits), (3, .int n)]) [0, 1, 2, 3] rfl ?_
  refine j_iload_n X 1 rfl rfl dX7_sheet_0 ?_
  refine j_callSI X (nn := 1) (As := [.int s]) (st := []) aw_639 (c_X7_isSheet l D y ad M s) aw_638 aw_640 aw_2 (by decide +kernel) ⟨by decide, by decide⟩ rfl (Nat.le_of_ble_eq_true rfl) ⟨by decide, by decide⟩ dX7_sheet_1 ?_
  rintro r_ M1_ (⟨rfl, rfl, h_1⟩ | ⟨rfl, rfl, h_1⟩)
  · refine j_if_eq X 29 (by decide) dX7_sheet_4 (fun c_2 => False.elim (by revert c_2; decide)) (fun c_2 => ?_)
    refine j_iload_n X 2 rfl rfl dX7_sheet_7 ?_
    refine j_if_eq X 36 (by decide) dX7_sheet_8 (fun c_3 => ?_) (fun c_3 => ?_)
    · have qc_3 := ti_eq (n := 0) (by decide) c_3
      refine j_iload_n X 2 rfl rfl dX7_sheet_36 ?_
      refine j_if_eq X 51 (by decide) dX7_sheet_37 (fun c_4 => ?_) (fun c_4 => False.elim (by rw [c_3] at c_4; revert c_4; decide))
      refine j_iload_n X 2 rfl rfl dX7_sheet_51 ?_
      refine j_if_eq X 68 (by decide) dX7_sheet_52 (fun c_5 => ?_) (fun c_5 => False.elim (by rw [c_3] at c_5; revert c_5; decide))
      refine j_aload_n X 0 rfl rfl dX7_sheet_68 ?_
      refine j_get X (by decide) (wE_7 _ rfl) rfl awF7 5 (by decide) aw_31 rfl (v := .ref (ad 69)) rfl dX7_sheet_69 ?_
      refine j_iload_n X 1 rfl rfl dX7_sheet_72 ?_
      rcases is_0_3 h_1 with rfl | rfl | rfl | rfl
      · refine j_aald11 X (by decide) rfl (by unfold vp_in; decide) dX7_sheet_73 ?_
        refine j_eqr (v := 70) rfl ?_
        refine j_iload_n X 2 rfl rfl dX7_sheet_74 ?_
        refine j_iload_n X 2 rfl rfl dX7_sheet_75 ?_
        refine j_if_ne X 83 (by decide) dX7_sheet_76 (fun c_6 => False.elim (by rw [c_3] at c_6; revert c_6; decide)) (fun c_6 => ?_)
        refine j_iconst X (v := 0) (by decide) dX7_sheet_79 ?_
        refine j_goto X 84 (by decide) dX7_sheet_80 ?_
        refine j_callVNV X (nn := 2) (As := [.int bits, .int 0]) (st := []) (ci := 3) (by decide) (wE_3 _ rfl) rfl aw_812 aw_813 (c_lay_70 l D y ad M bits 0) (List.mem_of_getElem? (i := 45) rfl) aw_814 aw_35 (by decide +kernel) ⟨by decide, by decide⟩ rfl (Nat.le_of_ble_eq_true rfl) ⟨by decide, by decide⟩ dX7_sheet_84 ?_
        rintro M1_ -
        refine j_iconst X (v := 1) (by decide) dX7_sheet_87 ?_
        exact j_iret X hr hlocks dX7_sheet_88 (by unfold sp_sheet; (repeat' split) <;> first | rfl | omega | (exfalso; omega))
      · refine j_aald11 X (by decide) rfl (by unfold vp_in; decide) dX7_sheet_73 ?_
        refine j_eqr (v := 72) rfl ?_
        refine j_iload_n X 2 rfl rfl dX7_sheet_74 ?_
        refine j_iload_n X 2 rfl rfl dX7_sheet_75 ?_
        refine j_if_ne X 83 (by decide) dX7_sheet_76 (fun c_7 => False.elim (by rw [c_3] at c_7; revert c_7; decide)) (fun c_7 => ?_)
        refine j_iconst X (v := 0) (by decide) dX7_sheet_79 ?_
        refine j_goto X 84 (by decide) dX7_sheet_80 ?_
        refine j_callVNV X (nn := 2) (As := [.int bits, .int 0]) (st := []) (ci := 3) (by decide) (wE_3 _ rfl) rfl aw_812 aw_813 (c_lay_72 l D y ad M bits 0) (List.mem_of_getElem? (i := 45) rfl) aw_814 aw_35 (by decide +kernel) ⟨by decide, by decide⟩ rfl (Nat.le_of_ble_eq_true rfl) ⟨by decide, by decide⟩ dX7_sheet_84 ?_
        rintro M1_ -
        refine j_iconst X (v := 1) (by decide) dX7_sheet_87 ?_
        exact j_iret X hr hlocks dX7_sheet_88 (by unfold sp_sheet; (repeat' split) <;> first | rfl | omega | (exfalso; omega))
      · refine j_aald11 X (by decide) rfl (by unfold vp_in; decide) dX7_sheet_73 ?_
        refine j_eqr (v := 74) rfl ?_
        refine j_iload_n X 2 rfl rfl dX7_sheet_74 ?_
        refine j_iload_n X 2 rfl rfl dX7_sheet_75 ?_
        refine j_if_ne X 83 (by decide) dX7_sheet_76 (fun c_8 => False.elim (by rw [c_3] at c_8; revert c_8; decide)) (fun c_8 => ?_)
        refine j_iconst X (v := 0) (by decide) dX7_sheet_79 ?_
        refine j_goto X 84 (by decide) dX7_sheet_80 ?_
        refine j_callVNV X (nn := 2) (As := [.int bits, .int 0]) (st := []) (ci := 3) (by decide) (wE_3 _ rfl) rfl aw_812 aw_813 (c_lay_74 l D y ad M bits 0) (List.mem_of_getElem? (i := 45) rfl) aw_814 aw_35 (by decide +kernel) ⟨by decide, by decide⟩ rfl (Nat.le_of_ble_eq_true rfl) ⟨by decide, by decide⟩ dX7_sheet_84 ?_
        rintro M1_ -
        refine j_iconst X (v := 1) (by decide) dX7_sheet_87 ?_
        exact j_iret X hr hlocks dX7_sheet_88 (by unfold sp_sheet; (repeat' split) <;> first | rfl | omega | (exfalso; omega))
      · refine j_aald11 X (by decide) rfl (by unfold vp_in; decide) dX7_sheet_73 ?_
        refine j_eqr (v := 76) rfl ?_
        refine j_iload_n X 2 rfl rfl dX7_sheet_74 ?_
        refine j_iload_n X 2 rfl rfl dX7_sheet_75 ?_
        refine j_if_ne X 83 (by decide) dX7_sheet_76 (fun c_9 => False.elim (by rw [c_3] at c_9; revert c_9; decide)) (fun c_9 => ?_)
        refine j_iconst X (v := 0) (by decide) dX7_sheet_79 ?_
        refine j_goto X 84 (by decide) dX7_sheet_80 ?_
        refine j_callVNV X (nn := 2) (As := [.int bits, .int 0]) (st := []) (ci := 3) (by decide) (wE_3 _ rfl) rfl aw_812 aw_813 (c_lay_76 l D y ad M bits 0) (List.mem_of_getElem? (i := 45) rfl) aw_814 aw_35 (by decide +kernel) ⟨by decide, by decide⟩ rfl (Nat.le_of_ble_eq_true rfl) ⟨by decide, by decide⟩ dX7_sheet_84 ?_
        rintro M1_ -
        refine j_iconst X (v := 1) (by decide) dX7_sheet_87 ?_
        exact j_iret X hr hlocks dX7_sheet_88 (by unfold sp_sheet; (repeat' split) <;> first | rfl | omega | (exfalso; omega))
    · have qc_3 := ti_ne (n := 0) (by decide) c_3
      refine j_iload_n X 2 rfl rfl dX7_sheet_11 ?_
      refine j_bipush X (v := 8) (by decide) dX7_sheet_12 ?_
      refine j_icmp_eq X 36 (by decide) dX7_sheet_14 (fun c_10 => ?_) (fun c_10 => ?_)
      · have qc_10 := ti_eq (n := 8) (by decide) c_10
        refine j_iload_n X 2 rfl rfl dX7_sheet_36 ?_
        refine j_if_eq X 51 (by decide) dX7_sheet_37 (fun c_11 => False.elim (by rw [c_10] at c_11; revert c_11; decide)) (fun c_11 => ?_)
        refine j_iload_n X 3 rfl rfl dX7_sheet_40 ?_
        refine j_if_ge X 51 (by decide) dX7_sheet_41 (fun c_12 => ?_) (fun c_12 => ?_)
        · have qc_12 := ti_le (a := 0) (b := n.toInt) (by decide) rfl c_12
          refine j_iload_n X 2 rfl rfl dX7_sheet_51 ?_
          refine j_if_eq X 68 (by decide) dX7_sheet_52 (fun c_13 => False.elim (by rw [c_10] at c_13; revert c_13; decide)) (fun c_13 => ?_)
          refine j_iload_n X 3 rfl rfl dX7_sheet_55 ?_
          refine j_bipush X (v := 40) (by decide) dX7_sheet_56 ?_
          refine j_icmp_le X 68 (by decide) dX7_sheet_58 (fun c_14 => ?_) (fun c_14 => ?_)
          · have qc_14 := ti_le (a := n.toInt) (b := 40) rfl (by decide) c_14
            refine j_aload_n X 0 rfl rfl dX7_sheet_68 ?_
            refine j_get X (by decide) (wE_7 _ rfl) rfl awF7 5 (by decide) aw_31 rfl (v := .ref (ad 69)) rfl dX7_sheet_69 ?_
            refine j_iload_n X 1 rfl rfl dX7_sheet_72 ?_
            rcases is_0_3 h_1 with rfl | rfl | rfl | rfl
            · refine j_aald11 X (by decide) rfl (by unfold vp_in; decide) dX7_sheet_73 ?_
              refine j_eqr (v := 70) rfl ?_
              refine j_iload_n X 2 rfl rfl dX7_sheet_74 ?_
              refine j_iload_n X 2 rfl rfl dX7_sheet_75 ?_
              refine j_if_ne X 83 (by decide) dX7_sheet_76 (fun c_15 => ?_) (fun c_15 => False.elim (by rw [c_10] at c_15; revert c_15; decide))
              refine j_iload_n X 3 rfl rfl dX7_sheet_83 ?_
              refine j_callVNV X (nn := 2) (As := [.int bits, .int n]) (st := []) (ci := 3) (by decide) (wE_3 _ rfl) rfl aw_812 aw_813 (c_lay_70 l D y ad M bits n) (List.mem_of_getElem? (i := 45) rfl) aw_814 aw_35 (by decide +kernel) ⟨by decide, by decide⟩ rfl (Nat.le_of_ble_eq_true rfl) ⟨by decide, by decide⟩ dX7_sheet_84 ?_
              rintro M1_ -
              refine j_iconst X (v := 1) (by decide) dX7_sheet_87 ?_
              exact j_iret X hr hlocks dX7_sheet_88 (by unfold sp_sheet; (repeat' split) <;> first | rfl | omega | (exfalso; omega))
            · refine j_aald11 X (by decide) rfl (by unfold vp_in; decide) dX7_sheet_73 ?_
              refine j_eqr (v := 72) rfl ?_
              refine j_iload_n X 2 rfl rfl dX7_sheet_74 ?_
              refine j_iload_n X 2 rfl rfl dX7_sheet_75 ?_
              refine j_if_ne X 83 (by decide) dX7_sheet_76 (fun c_16 => ?_) (fun c_16 => False.elim (by rw [c_10] at c_16; revert c_16; decide))
              refine j_iload_n X 3 rfl rfl dX7_sheet_83 ?_
              refine j_callVNV X (nn := 2) (As := [.int bits, .int n]) (st := []) (ci := 3) (by decide) (wE_3 _ rfl) rfl aw_812 aw_813 (c_lay_72 l D y ad M bits n) (List.mem_of_getElem? (i := 45) rfl) aw_814 aw_35 (by decide +kernel) ⟨by decide, by decide⟩ rfl (Nat.le_of_ble_eq_true rfl) ⟨by decide, by decide⟩ dX7_sheet_84 ?_
              rintro M1_ -
              refine j_iconst X (v := 1) (by decide) dX7_sheet_87 ?_
              exact j_iret X hr hlocks dX7_sheet_88 (by unfold sp_sheet; (repeat' split) <;> first | rfl | omega | (exfalso; omega))
            · refine j_aald11 X (by decide) rfl (by unfold vp_in; decide) dX7_sheet_73 ?_
              refine j_eqr (v := 74) rfl ?_
              refine j_iload_n X 2 rfl rfl dX7_sheet_74 ?_
              refine j_iload_n X 2 rfl rfl dX7_sheet_75 ?_
              refine j_if_ne X 83 (by decide) dX7_sheet_76 (fun c_17 => ?_) (fun c_17 => False.elim (by rw [c_10] at c_17; revert c_17; decide))
              refine j_iload_n X 3 rfl rfl dX7_sheet_83 ?_
              refine j_callVNV X (nn := 2) (As := [.int bits, .int n]) (st := []) (ci := 3) (by decide) (wE_3 _ rfl) rfl aw_812 aw_813 (c_lay_74 l D y ad M bits n) (List.mem_of_getElem? (i := 45) rfl) aw_814 aw_35 (by decide +kernel) ⟨by decide, by decide⟩ rfl (Nat.le_of_ble_eq_true rfl) ⟨by decide, by decide⟩ dX7_sheet_84 ?_
              rintro M1_ -
              refine j_iconst X (v := 1) (by decide) dX7_sheet_87 ?_
              exact j_iret X hr hlocks dX7_sheet_88 (by unfold sp_sheet; (repeat' split) <;> first | rfl | omega | (exfalso; omega))
            · refine j_aald11 X (by decide) rfl (by unfold vp_in; decide) dX7_sheet_73 ?_
              refine j_eqr (v := 76) rfl ?_
              refine j_iload_n X 2 rfl rfl dX7_sheet_74 ?_
              refine j_iload_n X 2 rfl rfl dX7_sheet_75 ?_
              refine j_if_ne X 83 (by decide) dX7_sheet_76 (fun c_18 => ?_) (fun c_18 => False.elim (by rw [c_10] at c_18; revert c_18; decide))
              refine j_iload_n X 3 rfl rfl dX7_sheet_83 ?_
              refine j_callVNV X (nn := 2) (As := [.int bits, .int n]) (st := []) (ci := 3) (by decide) (wE_3 _ rfl) rfl aw_812 aw_813 (c_lay_76 l D y ad M bits n) (List.mem_of_getElem? (i := 45) rfl) aw_814 aw_35 (by decide +kernel) ⟨by decide, by decide⟩ rfl (Nat.le_of_ble_eq_true rfl) ⟨by decide, by decide⟩ dX7_sheet_84 ?_
              rintro M1_ -
              refine j_iconst X (v := 1) (by decide) dX7_sheet_87 ?_
              exact j_iret X hr hlocks dX7_sheet_88 (by unfold sp_sheet; (repeat' split) <;> first | rfl | omega | (exfalso; omega))
          · have qc_14 := ti_nle (a := n.toInt) (b := 40) rfl (by decide) c_14
            refine j_aload_n X 0 rfl rfl dX7_sheet_61 ?_
            refine j_ldc X (v := (-1000000001)) aw_108 dX7_sheet_62 ?_
            refine j_callVI X (nn := 1) (As := [.int (-1000000001)]) (st := []) (ci := 7) (by decide) (wE_7 _ rfl) rfl aw_117 aw_118 (c_X7_refuse l D y ad M (-1000000001) 1 (by decide) (by decide)) aw_116 aw_119 aw_2 (by decide +kernel) ⟨by decide, by decide⟩ rfl (Nat.le_of_ble_eq_true rfl) ⟨by decide, by decide⟩ dX7_sheet_64 ?_
            rintro r_ M1_ ⟨rfl, rfl⟩
            exact j_iret X hr hlocks dX7_sheet_67 (by unfold sp_sheet; (repeat' split) <;> first | rfl | omega | (exfalso; omega))
        · have qc_12 := ti_nle (a := 0) (b := n.toInt) (by decide) rfl c_12
          refine j_aload_n X 0 rfl rfl dX7_sheet_44 ?_
          refine j_ldc X (v := (-1000000003)) aw_438 dX7_sheet_45 ?_
          refine j_callVI X (nn := 1) (As := [.int (-1000000003)]) (st := []) (ci := 7) (by decide) (wE_7 _ rfl) rfl aw_117 aw_118 (c_X7_refuse l D y ad M (-1000000003) 3 (by decide) (by decide)) aw_116 aw_119 aw_2 (by decide +kernel) ⟨by decide, by decide⟩ rfl (Nat.le_of_ble_eq_true rfl) ⟨by decide, by decide⟩ dX7_sheet_47 ?_
          rintro r_ M1_ ⟨rfl, rfl⟩
          exact j_iret X hr hlocks dX7_sheet_50 (by unfold sp_sheet; (repeat' split) <;> first | rfl | omega | (exfalso; omega))
      · have qc_10 := ti_ne (n := 8) (by decide) c_10
        refine j_iload_n X 2 rfl rfl dX7_sheet_17 ?_
        refine j_bipush X (v := 16) (by decide) dX7_sheet_18 ?_
        refine j_icmp_eq X 36 (by decide) dX7_sheet_20 (fun c_19 => ?_) (fun c_19 => ?_)
        · have qc_19 := ti_eq (n := 16) (by decide) c_19
          refine j_iload_n X 2 rfl rfl dX7_sheet_36 ?_
          refine j_if_eq X 51 (by decide) dX7_sheet_37 (fun c_20 => False.elim (by rw [c_19] at c_20; revert c_20; decide)) (fun c_20 => ?_)
          refine j_iload_n X 3 rfl rfl dX7_sheet_40 ?_
          refine j_if_ge X 51 (by decide) dX7_sheet_41 (fun c_21 => ?_) (fun c_21 => ?_)
          · have qc_21 := ti_le (a := 0) (b := n.toInt) (by decide) rfl c_21
            refine j_iload_n X 2 rfl rfl dX7_sheet_51 ?_
            refine j_if_eq X 68 (by decide) dX7_sheet_52 (fun c_22 => False.elim (by rw [c_19] at c_22; revert c_22; decide)) (fun c_22 => ?_)
            refine j_iload_n X 3 rfl rfl dX7_sheet_55 ?_
            refine j_bipush X (v := 40) (by decide) dX7_sheet_56 ?_
            refine j_icmp_le X 68 (by decide) dX7_sheet_58 (fun c_23 => ?_) (fun c_23 => ?_)
            · have qc_23 := ti_le (a := n.toInt) (b := 40) rfl (by decide) c_23
              refine j_aload_n X 0 rfl rfl dX7_sheet_68 ?_
              refine j_get X (by decide) (wE_7 _ rfl) rfl awF7 5 (by decide) aw_31 rfl (v := .ref (ad 69)) rfl dX7_sheet_69 ?_
              refine j_iload_n X 1 rfl rfl dX7_sheet_72 ?_
              rcases is_0_3 h_1 with rfl | rfl | rfl | rfl
              · refine j_aald11 X (by decide) rfl (by unfold vp_in; decide) dX7_sheet_73 ?_
                refine j_eqr (v := 70) rfl ?_
                refine j_iload_n X 2 rfl rfl dX7_sheet_74 ?_
                refine j_iload_n X 2 rfl rfl dX7_sheet_75 ?_
                refine j_if_ne X 83 (by decide) dX7_sheet_76 (fun c_24 => ?_) (fun c_24 => False.elim (by rw [c_19] at c_24; revert c_24; decide))
                refine j_iload_n X 3 rfl rfl dX7_sheet_83 ?_
                refine j_callVNV X (nn := 2) (As := [.int bits, .int n]) (st := []) (ci := 3) (by decide) (wE_3 _ rfl) rfl aw_812 aw_813 (c_lay_70 l D y ad M bits n) (List.mem_of_getElem? (i := 45) rfl) aw_814 aw_35 (by decide +kernel) ⟨by decide, by decide⟩ rfl (Nat.le_of_ble_eq_true rfl) ⟨by decide, by decide⟩ dX7_sheet_84 ?_
                rintro M1_ -
                refine j_iconst X (v := 1) (by decide) dX7_sheet_87 ?_
                exact j_iret X hr hlocks dX7_sheet_88 (by unfold sp_sheet; (repeat' split) <;> first | rfl | omega | (exfalso; omega))
              · refine j_aald11 X (by decide) rfl (by unfold vp_in; decide) dX7_sheet_73 ?_
                refine j_eqr (v := 72) rfl ?_
                refine j_iload_n X 2 rfl rfl dX7_sheet_74 ?_
                refine j_iload_n X 2 rfl rfl dX7_sheet_75 ?_
                refine j_if_ne X 83 (by decide) dX7_sheet_76 (fun c_25 => ?_) (fun c_25 => False.elim (by rw [c_19] at c_25; revert c_25; decide))
                refine j_iload_n X 3 rfl rfl dX7_sheet_83 ?_
                refine j_callVNV X (nn := 2) (As := [.int bits, .int n]) (st := []) (ci := 3) (by decide) (wE_3 _ rfl) rfl aw_812 aw_813 (c_lay_72 l D y ad M bits n) (List.mem_of_getElem? (i := 45) rfl) aw_814 aw_35 (by decide +kernel) ⟨by decide, by decide⟩ rfl (Nat.le_of_ble_eq_true rfl) ⟨by decide, by decide⟩ dX7_sheet_84 ?_
                rintro M1_ -
                refine j_iconst X (v := 1) (by decide) dX7_sheet_87 ?_
                exact j_iret X hr hlocks dX7_sheet_88 (by unfold sp_sheet; (repeat' split) <;> first | rfl | omega | (exfalso; omega))
              · refine j_aald11 X (by decide) rfl (by unfold vp_in; decide) dX7_sheet_73 ?_
                refine j_eqr (v := 74) rfl ?_
                refine j_iload_n X 2 rfl rfl dX7_sheet_74 ?_
                refine j_iload_n X 2 rfl rfl dX7_sheet_75 ?_
                refine j_if_ne X 83 (by decide) dX7_sheet_76 (fun c_26 => ?_) (fun c_26 => False.elim (by rw [c_19] at c_26; revert c_26; decide))
                refine j_iload_n X 3 rfl rfl dX7_sheet_83 ?_
                refine j_callVNV X (nn := 2) (As := [.int bits, .int n]) (st := []) (ci := 3) (by decide) (wE_3 _ rfl) rfl aw_812 aw_813 (c_lay_74 l D y ad M bits n) (List.mem_of_getElem? (i := 45) rfl) aw_814 aw_35 (by decide +kernel) ⟨by decide, by decide⟩ rfl (Nat.le_of_ble_eq_true rfl) ⟨by decide, by decide⟩ dX7_sheet_84 ?_
                rintro M1_ -
                refine j_iconst X (v := 1) (by decide) dX7_sheet_87 ?_
                exact j_iret X hr hlocks dX7_sheet_88 (by unfold sp_sheet; (repeat' split) <;> first | rfl | omega | (exfalso; omega))
              · refine j_aald11 X (by decide) rfl (by unfold vp_in; decide) dX7_sheet_73 ?_
                refine j_eqr (v := 76) rfl ?_
                refine j_iload_n X 2 rfl rfl dX7_sheet_74 ?_
                refine j_iload_n X 2 rfl rfl dX7_sheet_75 ?_
                refine j_if_ne X 83 (by decide) dX7_sheet_76 (fun c_27 => ?_) (fun c_27 => False.elim (by rw [c_19] at c_27; revert c_27; decide))
                refine j_iload_n X 3 rfl rfl dX7_sheet_83 ?_
                refine j_callVNV X (nn := 2) (As := [.int bits, .int n]) (st := []) (ci := 3) (by decide) (wE_3 _ rfl) rfl aw_812 aw_813 (c_lay_76 l D y ad M bits n) (List.mem_of_getElem? (i := 45) rfl) aw_814 aw_35 (by decide +kernel) ⟨by decide, by decide⟩ rfl (Nat.le_of_ble_eq_true rfl) ⟨by decide, by decide⟩ dX7_sheet_84 ?_
                rintro M1_ -
                refine j_iconst X (v := 1) (by decide) dX7_sheet_87 ?_
                exact j_iret X hr hlocks dX7_sheet_88 (by unfold sp_sheet; (repeat' split) <;> first | rfl | omega | (exfalso; omega))
            · have qc_23 := ti_nle (a := n.toInt) (b := 40) rfl (by decide) c_23
              refine j_aload_n X 0 rfl rfl dX7_sheet_61 ?_
              refine j_ldc X (v := (-1000000001)) aw_108 dX7_sheet_62 ?_
              refine j_callVI X (nn := 1) (As := [.int (-1000000001)]) (st := []) (ci := 7) (by decide) (wE_7 _ rfl) rfl aw_117 aw_118 (c_X7_refuse l D y ad M (-1000000001) 1 (by decide) (by decide)) aw_116 aw_119 aw_2 (by decide +kernel) ⟨by decide, by decide⟩ rfl (Nat.le_of_ble_eq_true rfl) ⟨by decide, by decide⟩ dX7_sheet_64 ?_
              rintro r_ M1_ ⟨rfl, rfl⟩
              exact j_iret X hr hlocks dX7_sheet_67 (by unfold sp_sheet; (repeat' split) <;> first | rfl | omega | (exfalso; omega))
          · have qc_21 := ti_nle (a := 0) (b := n.toInt) (by decide) rfl c_21
            refine j_aload_n X 0 rfl rfl dX7_sheet_44 ?_
            refine j_ldc X (v := (-1000000003)) aw_438 dX7_sheet_45 ?_
            refine j_callVI X (nn := 1) (As := [.int (-1000000003)]) (st := []) (ci := 7) (by decide) (wE_7 _ rfl) rfl aw_117 aw_118 (c_X7_refuse l D y ad M (-1000000003) 3 (by decide) (by decide)) aw_116 aw_119 aw_2 (by decide +kernel) ⟨by decide, by decide⟩ rfl (Nat.le_of_ble_eq_true rfl) ⟨by decide, by decide⟩ dX7_sheet_47 ?_
            rintro r_ M1_ ⟨rfl, rfl⟩
            exact j_iret X hr hlocks dX7_sheet_50 (by unfold sp_sheet; (repeat' split) <;> first | rfl | omega | (exfalso; omega))
        · have qc_19 := ti_ne (n := 16) (by decide) c_19
          refine j_iload_n X 2 rfl rfl dX7_sheet_23 ?_
          refine j_bipush X (v := 32) (by decide) dX7_sheet_24 ?_
          refine j_icmp_eq X 36 (by decide) dX7_sheet_26 (fun c_28 => ?_) (fun c_28 => ?_)
          · have qc_28 := ti_eq (n := 32) (by decide) c_28
            refine j_iload_n X 2 rfl rfl dX7_sheet_36 ?_
            refine j_if_eq X 51 (by decide) dX7_sheet_37 (fun c_29 => False.elim (by rw [c_28] at c_29; revert c_29; decide)) (fun c_29 => ?_)
            refine j_iload_n X 3 rfl rfl dX7_sheet_40 ?_
            refine j_if_ge X 51 (by decide) dX7_sheet_41 (fun c_30 => ?_) (fun c_30 => ?_)
            · have qc_30 := ti_le (a := 0) (b := n.toInt) (by decide) rfl c_30
              refine j_iload_n X 2 rfl rfl dX7_sheet_51 ?_
              refine j_if_eq X 68 (by decide) dX7_sheet_52 (fun c_31 => False.elim (by rw [c_28] at c_31; revert c_31; decide)) (fun c_31 => ?_)
              refine j_iload_n X 3 rfl rfl dX7_sheet_55 ?_
              refine j_bipush X (v := 40) (by decide) dX7_sheet_56 ?_
              refine j_icmp_le X 68 (by decide) dX7_sheet_58 (fun c_32 => ?_) (fun c_32 => ?_)
              · have qc_32 := ti_le (a := n.toInt) (b := 40) rfl (by decide) c_32
                refine j_aload_n X 0 rfl rfl dX7_sheet_68 ?_
                refine j_get X (by decide) (wE_7 _ rfl) rfl awF7 5 (by decide) aw_31 rfl (v := .ref (ad 69)) rfl dX7_sheet_69 ?_
                refine j_iload_n X 1 rfl rfl dX7_sheet_72 ?_
                rcases is_0_3 h_1 with rfl | rfl | rfl | rfl
                · refine j_aald11 X (by decide) rfl (by unfold vp_in; decide) dX7_sheet_73 ?_
                  refine j_eqr (v := 70) rfl ?_
                  refine j_iload_n X 2 rfl rfl dX7_sheet_74 ?_
                  refine j_iload_n X 2 rfl rfl dX7_sheet_75 ?_
                  refine j_if_ne X 83 (by decide) dX7_sheet_76 (fun c_33 => ?_) (fun c_33 => False.elim (by rw [c_28] at c_33; revert c_33; decide))
                  refine j_iload_n X 3 rfl rfl dX7_sheet_83 ?_
                  refine j_callVNV X (nn := 2) (As := [.int bits, .int n]) (st := []) (ci := 3) (by decide) (wE_3 _ rfl) rfl aw_812 aw_813 (c_lay_70 l D y ad M bits n) (List.mem_of_getElem? (i := 45) rfl) aw_814 aw_35 (by decide +kernel) ⟨by decide, by decide⟩ rfl (Nat.le_of_ble_eq_true rfl) ⟨by decide, by decide⟩ dX7_sheet_84 ?_
                  rintro M1_ -
                  refine j_iconst X (v := 1) (by decide) dX7_sheet_87 ?_
                  exact j_iret X hr hlocks dX7_sheet_88 (by unfold sp_sheet; (repeat' split) <;> first | rfl | omega | (exfalso; omega))
                · refine j_aald11 X (by decide) rfl (by unfold vp_in; decide) dX7_sheet_73 ?_
                  refine j_eqr (v := 72) rfl ?_
                  refine j_iload_n X 2 rfl rfl dX7_sheet_74 ?_
                  refine j_iload_n X 2 rfl rfl dX7_sheet_75 ?_
                  refine j_if_ne X 83 (by decide) dX7_sheet_76 (fun c_34 => ?_) (fun c_34 => False.elim (by rw [c_28] at c_34; revert c_34; decide))
                  refine j_iload_n X 3 rfl rfl dX7_sheet_83 ?_
                  refine j_callVNV X (nn := 2) (As := [.int bits, .int n]) (st := []) (ci := 3) (by decide) (wE_3 _ rfl) rfl aw_812 aw_813 (c_lay_72 l D y ad M bits n) (List.mem_of_getElem? (i := 45) rfl) aw_814 aw_35 (by decide +kernel) ⟨by decide, by decide⟩ rfl (Nat.le_of_ble_eq_true rfl) ⟨by decide, by decide⟩ dX7_sheet_84 ?_
                  rintro M1_ -
                  refine j_iconst X (v := 1) (by decide) dX7_sheet_87 ?_
                  exact j_iret X hr hlocks dX7_sheet_88 (by unfold sp_sheet; (repeat' split) <;> first | rfl | omega | (exfalso; omega))
                · refine j_aald11 X (by decide) rfl (by unfold vp_in; decide) dX7_sheet_73 ?_
                  refine j_eqr (v := 74) rfl ?_
                  refine j_iload_n X 2 rfl rfl dX7_sheet_74 ?_
                  refine j_iload_n X 2 rfl rfl dX7_sheet_75 ?_
                  refine j_if_ne X 83 (by decide) dX7_sheet_76 (fun c_35 => ?_) (fun c_35 => False.elim (by rw [c_28] at c_35; revert c_35; decide))
                  refine j_iload_n X 3 rfl rfl dX7_sheet_83 ?_
                  refine j_callVNV X (nn := 2) (As := [.int bits, .int n]) (st := []) (ci := 3) (by decide) (wE_3 _ rfl) rfl aw_812 aw_813 (c_lay_74 l D y ad M bits n) (List.mem_of_getElem? (i := 45) rfl) aw_814 aw_35 (by decide +kernel) ⟨by decide, by decide⟩ rfl (Nat.le_of_ble_eq_true rfl) ⟨by decide, by decide⟩ dX7_sheet_84 ?_
                  rintro M1_ -
                  refine j_iconst X (v := 1) (by decide) dX7_sheet_87 ?_
                  exact j_iret X hr hlocks dX7_sheet_88 (by unfold sp_sheet; (repeat' split) <;> first | rfl | omega | (exfalso; omega))
                · refine j_aald11 X (by decide) rfl (by unfold vp_in; decide) dX7_sheet_73 ?_
                  refine j_eqr (v := 76) rfl ?_
                  refine j_iload_n X 2 rfl rfl dX7_sheet_74 ?_
                  refine j_iload_n X 2 rfl rfl dX7_sheet_75 ?_
                  refine j_if_ne X 83 (by decide) dX7_sheet_76 (fun c_36 => ?_) (fun c_36 => False.elim (by rw [c_28] at c_36; revert c_36; decide))
                  refine j_iload_n X 3 rfl rfl dX7_sheet_83 ?_
                  refine j_callVNV X (nn := 2) (As := [.int bits, .int n]) (st := []) (ci := 3) (by decide) (wE_3 _ rfl) rfl aw_812 aw_813 (c_lay_76 l D y ad M bits n) (List.mem_of_getElem? (i := 45) rfl) aw_814 aw_35 (by decide +kernel) ⟨by decide, by decide⟩ rfl (Nat.le_of_ble_eq_true rfl) ⟨by decide, by decide⟩ dX7_sheet_84 ?_
                  rintro M1_ -
                  refine j_iconst X (v := 1) (by decide) dX7_sheet_87 ?_
                  exact j_iret X hr hlocks dX7_sheet_88 (by unfold sp_sheet; (repeat' split) <;> first | rfl | omega | (exfalso; omega))
              · have qc_32 := ti_nle (a := n.toInt) (b := 40) rfl (by decide) c_32
                refine j_aload_n X 0 rfl rfl dX7_sheet_61 ?_
                refine j_ldc X (v := (-1000000001)) aw_108 dX7_sheet_62 ?_
                refine j_callVI X (nn := 1) (As := [.int (-1000000001)]) (st := []) (ci := 7) (by decide) (wE_7 _ rfl) rfl aw_117 aw_118 (c_X7_refuse l D y ad M (-1000000001) 1 (by decide) (by decide)) aw_116 aw_119 aw_2 (by decide +kernel) ⟨by decide, by decide⟩ rfl (Nat.le_of_ble_eq_true rfl) ⟨by decide, by decide⟩ dX7_sheet_64 ?_
                rintro r_ M1_ ⟨rfl, rfl⟩
                exact j_iret X hr hlocks dX7_sheet_67 (by unfold sp_sheet; (repeat' split) <;> first | rfl | omega | (exfalso; omega))
            · have qc_30 := ti_nle (a := 0) (b := n.toInt) (by decide) rfl c_30
              refine j_aload_n X 0 rfl rfl dX7_sheet_44 ?_
              refine j_ldc X (v := (-1000000003)) aw_438 dX7_sheet_45 ?_
              refine j_callVI X (nn := 1) (As := [.int (-1000000003)]) (st := []) (ci := 7) (by decide) (wE_7 _ rfl) rfl aw_117 aw_118 (c_X7_refuse l D y ad M (-1000000003) 3 (by decide) (by decide)) aw_116 aw_119 aw_2 (by decide +kernel) ⟨by decide, by decide⟩ rfl (Nat.le_of_ble_eq_true rfl) ⟨by decide, by decide⟩ dX7_sheet_47 ?_
              rintro r_ M1_ ⟨rfl, rfl⟩
              exact j_iret X hr hlocks dX7_sheet_50 (by unfold sp_sheet; (repeat' split) <;> first | rfl | omega | (exfalso; omega))
          · have qc_28 := ti_ne (n := 32) (by decide) c_28
            refine j_aload_n X 0 rfl rfl dX7_sheet_29 ?_
            refine j_ldc X (v := (-1000000001)) aw_108 dX7_sheet_30 ?_
            refine j_callVI X (nn := 1) (As := [.int (-1000000001)]) (st := []) (ci := 7) (by decide) (wE_7 _ rfl) rfl aw_117 aw_118 (c_X7_refuse l D y ad M (-1000000001) 1 (by decide) (by decide)) aw_116 aw_119 aw_2 (by decide +kernel) ⟨by decide, by decide⟩ rfl (Nat.le_of_ble_eq_true rfl) ⟨by decide, by decide⟩ dX7_sheet_32 ?_
            rintro r_ M1_ ⟨rfl, rfl⟩
            exact j_iret X hr hlocks dX7_sheet_35 (by unfold sp_sheet; (repeat' split) <;> first | rfl | omega | (exfalso; omega))
  · refine j_if_eq X 29 (by decide) dX7_sheet_4 (fun c_37 => ?_) (fun c_37 => False.elim (by revert c_37; decide))
    refine j_aload_n X 0 rfl rfl dX7_sheet_29 ?_
    refine j_ldc X (v := (-1000000001)) aw_108 dX7_sheet_30 ?_
    refine j_callVI X (nn := 1) (As := [.int (-1000000001)]) (st := []) (ci := 7) (by decide) (wE_7 _ rfl) rfl aw_117 aw_118 (c_X7_refuse l D y ad M (-1000000001) 1 (by decide) (by decide)) aw_116 aw_119 aw_2 (by decide +kernel) ⟨by decide, by decide⟩ rfl (Nat.le_of_ble_eq_true rfl) ⟨by decide, by decide⟩ dX7_sheet_32 ?_
    rintro r_ M1_ ⟨rfl, rfl⟩
    exact j_iret X hr hlocks dX7_sheet_35 (by unfold sp_sheet; (repeat' split) <;> first | rfl | omega | (exfalso; omega))
set_option maxRecDepth 100000 in
set_option maxHeartbeats 4000000 in
theorem c0_X7_feed (l : Launch) (D : va_G) (y : wY) (ad : Nat → Nat) (M : Mem) (hz : Z0 M) (w : Int64) (n : Int32) : MI l D y ad yX7_feed (Cond.code yX7_feed cX7_feed 5 (some .int)) 6 M [.ref (ad 0), .long w, .int n] (fun r _ => sp_feed w n = r) := by
  refine MI_of (by decide) (Nat.le_of_ble_eq_true rfl) ?_
  intro p e s m args below meth c X hr hlocks
  refine j_lv (lv1 := [(0, .ref (ad 0)), (1, .long w), (3, .int n)]) [0, 1, 2] rfl ?_
  refine j_iload_n X 2 rfl rfl dX7_feed_0 ?_
  refine j_iconst X (v := 1) (by decide) dX7_feed_1 ?_
  refine j_bipush X (v := 8) (by decide) dX7_feed_2 ?_
  refine j_callSI X (nn := 3) (As := [.int n, .int 1, .int 8]) (st := []) aw_110 (c_X7_isWithin l D y ad M n 1 8 1 8 (by decide) (by decide)) aw_109 aw_111 aw_2 (by decide +kernel) ⟨by decide, by decide⟩ rfl (Nat.le_of_ble_eq_true rfl) ⟨by decide, by decide⟩ dX7_feed_4 ?_
  rintro r_ M1_ (⟨rfl, rfl, h_1⟩ | ⟨rfl, rfl, h_1⟩)
  · refine j_if_ne X 17 (by decide) dX7_feed_7 (fun c_2 => ?_) (fun c_2 => False.elim (by revert c_2; decide))
    obtain ⟨N, hN, rfl⟩ := nI_oft (x := n) (n := 8) (by omega) (by omega) (by decide)
    rw [nI_ti hN (by decide)] at h_1
    refine j_aload_n X 0 rfl rfl dX7_feed_17 ?_
    refine j_get X (by decide) (wE_7 _ rfl) rfl awF7 0 (by decide) aw_16 rfl (v := .ref (ad 1)) rfl dX7_feed_18 ?_
    refine j_getN X (by decide) (wE_6 _ rfl) rfl awF6 5 (by decide) (List.mem_of_getElem? (i := 26) rfl) rfl (v := .int (M 1 5)) rfl dX7_feed_21 ?_
    refine j_eqi (v := 0) hz.2.2.2.2.2.2.1 ?_
    refine j_iload_n X 2 rfl rfl dX7_feed_24 ?_
    refine j_iadd X dX7_feed_25 ?_
    refine j_eqi (v := (nI N)) (Int32.zero_add _) ?_
    refine j_bipush X (v := 50) (by decide) dX7_feed_26 ?_
    refine j_icmp_le X 38 (by decide) dX7_feed_28 (fun c_3 => ?_) (fun c_3 => False.elim (c_3 (show nI N ≤ nI 50 from nI_le (by omega) (by decide))))
    refine j_iconst X (v := 0) (by decide) dX7_feed_38 ?_
    refine j_istore X [(4, .int 0), (0, .ref (ad 0)), (1, .long w), (3, .int (nI N))] (by decide) rfl dX7_feed_39 ?_
    have loop4 : ∀ (n_4 i_4 : Nat) (M4 : Mem), i_4 ≤ N → N - i_4 < n_4 → sm (fun b _ => b == 23) M M4 → J p l e (rmN 6) s m args below meth c 0 0 (QI (fun r _ => sp_feed w n = r) D y ad M s args below) D y ad (va_A (PL y ad M) s.heap.size) 5 M4 41 [(4, .int (nI i_4)), (0, .ref (ad 0)), (1, .long w), (3, .int (nI N))] [] := by
      intro n_4
      induction n_4 with
      | zero => intro i_4 M4 h1 h2; exact absurd h2 (by omega)
      | succ n_4 ih4 =>
        intro i_4 M4 h1i_4 h2i_4 hs4
        refine j_iload X 0 rfl dX7_feed_41 ?_
        refine j_iload_n X 3 rfl rfl dX7_feed_43 ?_
        refine j_icmp_ge X 83 (by decide) dX7_feed_44 (fun c_5 => ?_) (fun c_5 => ?_)
        · have c_5 := (nI_leI (by omega) (by omega)).mp (show nI (N) ≤ nI i_4 from c_5)
          refine j_aload_n X 1 rfl rfl dX7_feed_83 ?_
          refine j_get X (by decide) (wE_7 _ rfl) rfl awF7 0 (by decide) aw_16 rfl (v := .ref (ad 1)) rfl dX7_feed_84 ?_
          refine j_dup X rfl dX7_feed_87 ?_
          refine j_getN X (by decide) (wE_6 _ rfl) rfl awF6 5 (by decide) (List.mem_of_getElem? (i := 26) rfl) rfl (v := .int (M4 1 5)) rfl dX7_feed_88 ?_
          refine j_eqi (v := 0) ((hs4 1 5 rfl).trans hz.2.2.2.2.2.2.1) ?_
          refine j_iload_n X 3 rfl rfl dX7_feed_91 ?_
          refine j_iadd X dX7_feed_92 ?_
          refine j_eqi (v := (nI N)) (Int32.zero_add _) ?_
          refine j_putN X (up M4 1 5 (nI N)) up_o (by decide) (wE_6 _ rfl) rfl awF6 5 (by decide) (wP_6_5 _ _ rfl) tyX6 tyX6_ok nmX6 rfl (ty := .int) (by decide +kernel) rfl rfl (Nat.le_of_ble_eq_true rfl) (List.mem_of_getElem? (i := 26) rfl) rfl dX7_feed_93 ?_
          refine j_aload_n X 1 rfl rfl dX7_feed_96 ?_
          refine j_get X (by decide) (wE_7 _ rfl) rfl awF7 0 (by decide) aw_16 rfl (v := .ref (ad 1)) rfl dX7_feed_97 ?_
          refine j_getN X (by decide) (wE_6 _ rfl) rfl awF6 5 (by decide) (List.mem_of_getElem? (i := 26) rfl) rfl (v := .int ((up M4 1 5 (nI N)) 1 5)) rfl dX7_feed_100 ?_
          refine j_eqi (v := (nI N)) (by simp [up]) ?_
          exact j_iret X hr hlocks dX7_feed_103 (by unfold sp_feed; rw [nI_ti hN (by decide)]; (repeat' split) <;> first | rfl | omega | (exfalso; omega))
        · have c_5 : i_4 < N := by
            rcases Nat.lt_or_ge i_4 (N) with g | g
            · exact g
            · exact absurd (show nI (N) ≤ nI i_4 from nI_le g (by omega)) c_5
          refine j_aload_n X 1 rfl rfl dX7_feed_47 ?_
          refine j_get X (by decide) (wE_7 _ rfl) rfl awF7 0 (by decide) aw_16 rfl (v := .ref (ad 1)) rfl dX7_feed_48 ?_
          refine j_getN X (by decide) (wE_6 _ rfl) rfl awF6 3 (by decide) (List.mem_of_getElem? (i := 24) rfl) rfl (v := .ref (ad 23)) rfl dX7_feed_51 ?_
          refine j_aload_n X 1 rfl rfl dX7_feed_54 ?_
          refine j_get X (by decide) (wE_7 _ rfl) rfl awF7 0 (by decide) aw_16 rfl (v := .ref (ad 1)) rfl dX7_feed_55 ?_
          refine j_getN X (by decide) (wE_6 _ rfl) rfl awF6 5 (by decide) (List.mem_of_getElem? (i := 26) rfl) rfl (v := .int (M4 1 5)) rfl dX7_feed_58 ?_
          refine j_eqi (v := 0) ((hs4 1 5 rfl).trans hz.2.2.2.2.2.2.1) ?_
          refine j_iload X 0 rfl dX7_feed_61 ?_
          refine j_iadd X dX7_feed_63 ?_
          refine j_eqi (v := (nI i_4)) (Int32.zero_add _) ?_
          refine j_lload_n X 2 rfl rfl dX7_feed_64 ?_
          refine j_bipush X (v := 8) (by decide) dX7_feed_65 ?_
          refine j_iload X 0 rfl dX7_feed_67 ?_
          refine j_imul X dX7_feed_69 ?_
          refine j_lushr X dX7_feed_70 ?_
          refine j_l2i X dX7_feed_71 ?_
          refine j_sipush X (v := 255) (by decide) dX7_feed_72 ?_
          refine j_iand X dX7_feed_75 ?_
          refine j_iast X (by decide) rfl (show vp_in (nI i_4) 50 from vp_in_nI (by omega) (by decide)) dX7_feed_76 ?_
          refine j_eqM (M1 := (up M4 23 i_4 ((((w.toUInt64 >>> ((8 * (nI i_4)).toInt64.toUInt64 &&& Int64.toUInt64 63)).toInt64).toInt32) &&& 255))) (by rw [nI_clamp (by omega)]) ?_
          refine j_iinc X (v := (nI (i_4 + 1))) 0 [(4, .int (nI (i_4 + 1))), (0, .ref (ad 0)), (1, .long w), (3, .int (nI N))] rfl (nI_1 i_4) (by decide) rfl dX7_feed_77 ?_
          refine j_goto X 41 (by decide) dX7_feed_80 ?_
          refine j_lv (lv1 := [(4, .int (nI (i_4 + 1))), (0, .ref (ad 0)), (1, .long w), (3, .int (nI N))]) [0, 1, 2, 3] rfl ?_
          exact ih4 (i_4 + 1) _ (by omega) (by omega) (sm_up hs4 rfl)
    refine j_lv (lv1 := [(4, .int (nI 0)), (0, .ref (ad 0)), (1, .long w), (3, .int (nI N))]) [0, 1, 2, 3] rfl ?_
    exact loop4 (N + 1) 0 _ (by omega) (by omega) sm_rf
  · refine j_if_ne X 17 (by decide) dX7_feed_7 (fun c_6 => False.elim (by revert c_6; decide)) (fun c_6 => ?_)
    refine j_aload_n X 0 rfl rfl dX7_feed_10 ?_
    refine j_ldc X (v := (-1000000001)) aw_108 dX7_feed_11 ?_
    refine j_callVI X (nn := 1) (As := [.int (-1000000001)]) (st := []) (ci := 7) (by decide) (wE_7 _ rfl) rfl aw_117 aw_118 (c_X7_refuse l D y ad M (-1000000001) 1 (by decide) (by decide)) aw_116 aw_119 aw_2 (by decide +kernel) ⟨by decide, by decide⟩ rfl (Nat.le_of_ble_eq_true rfl) ⟨by decide, by decide⟩ dX7_feed_13 ?_
    rintro r_ M1_ ⟨rfl, rfl⟩
    exact j_iret X hr hlocks dX7_feed_16 (by unfold sp_feed; (repeat' split) <;> first | rfl | omega | (exfalso; omega))
set_option maxRecDepth 100000 in
set_option maxHeartbeats 4000000 in
theorem c_textOf_1 (l : Launch) (D : va_G) (y : wY) (ad : Nat → Nat) (M : Mem) (u : Int32) : MR l D y ad yX6_textOf (Cond.code yX6_textOf cX6_textOf 2 (some (.object "KnivesGround$Text"))) 0 M [.ref (ad 1), .int u] (fun r M' => (2 = r ∧ M = M' ∧ u.toInt = 0) ∨ (7 = r ∧ M = M' ∧ u.toInt ≠ 0)) := by
  refine MR_of (by decide) (Nat.le_of_ble_eq_true rfl) ?_
  intro p e s m args below meth c X hr hlocks
  refine j_lv (lv1 := [(0, .ref (ad 1)), (1, .int u)]) [0, 1] rfl ?_
  refine j_iload_n X 1 rfl rfl dX6_textOf_0 ?_
  refine j_if_ne X 11 (by decide) dX6_textOf_1 (fun c_1 => ?_) (fun c_1 => ?_)
  · have qc_1 := ti_ne (n := 0) (by decide) c_1
    refine j_aload_n X 0 rfl rfl dX6_textOf_11 ?_
    refine j_get X (by decide) (wE_6 _ rfl) rfl awF6 1 (by decide) aw_43 rfl (v := .ref (ad 7)) rfl dX6_textOf_12 ?_
    exact j_aret X hr hlocks dX6_textOf_15 (Or.inr ⟨rfl, rfl, by assumption⟩)
  · have qc_1 := ti_eq (n := 0) (by decide) c_1
    refine j_aload_n X 0 rfl rfl dX6_textOf_4 ?_
    refine j_get X (by decide) (wE_6 _ rfl) rfl awF6 0 (by decide) aw_42 rfl (v := .ref (ad 2)) rfl dX6_textOf_5 ?_
    refine j_goto X 15 (by decide) dX6_textOf_8 ?_
    exact j_aret X hr hlocks dX6_textOf_15 (Or.inl ⟨rfl, rfl, by assumption⟩)
set_option maxRecDepth 100000 in
set_option maxHeartbeats 4000000 in
theorem c_gives0_2 (l : Launch) (D : va_G) (y : wY) (ad : Nat → Nat) (M : Mem) (hs : M 2 5 = 0) (hu : M 2 4 = 0) (a b c0 : Int32) : MI l D y ad yX4_gives (Cond.code yX4_gives cX4_gives 5 (some .int)) 1 M [.ref (ad 2), .int a, .int b, .int c0] (fun r _ => 20 = r) := by
  refine MI_of (by decide) (Nat.le_of_ble_eq_true rfl) ?_
  intro p e s m args below meth c X hr hlocks
  refine j_lv (lv1 := [(0, .ref (ad 2)), (1, .int a), (2, .int b), (3, .int c0)]) [0, 1, 2, 3] rfl ?_
  refine j_aload_n X 0 rfl rfl dX4_gives_0 ?_
  refine j_get X (by decide) (wE_4 _ rfl) rfl awF4 5 (by decide) aw_73 rfl (v := .int (M 2 5)) rfl dX4_gives_1 ?_
  refine j_eqi (v := 0) hs ?_
  refine j_if_le X 17 (by decide) dX4_gives_4 (fun c_1 => ?_) (fun c_1 => False.elim (by revert c_1; decide))
  refine j_aload_n X 0 rfl rfl dX4_gives_17 ?_
  refine j_get X (by decide) (wE_4 _ rfl) rfl awF4 4 (by decide) aw_72 rfl (v := .int (M 2 4)) rfl dX4_gives_18 ?_
  refine j_eqi (v := 0) hu ?_
  refine j_if_ne X 29 (by decide) dX4_gives_21 (fun c_2 => False.elim (by revert c_2; decide)) (fun c_2 => ?_)
  refine j_bipush X (v := 20) (by decide) dX4_gives_24 ?_
  refine j_goto X 36 (by decide) dX4_gives_26 ?_
  refine j_istore X [(4, .int 20), (0, .ref (ad 2)), (1, .int a), (2, .int b), (3, .int c0)] (by decide) rfl dX4_gives_36 ?_
  refine j_iconst X (v := 0) (by decide) dX4_gives_38 ?_
  refine j_bipush X (v := 99) (by decide) dX4_gives_39 ?_
  refine j_iload X 0 rfl dX4_gives_41 ?_
  refine j_mmin X aw_201 aw_202 aw_203 aw_204 (by decide) (Nat.le_of_ble_eq_true rfl) (by decide) (by decide) dX4_gives_43 ?_
  refine j_eqi (v := 20) (by decide) ?_
  refine j_mmax X aw_205 aw_206 aw_203 aw_207 (by decide) (Nat.le_of_ble_eq_true rfl) (by decide) (by decide) dX4_gives_46 ?_
  refine j_eqi (v := 20) (by decide) ?_
  exact j_iret X hr hlocks dX4_gives_49 rfl
set_option maxRecDepth 100000 in
set_option maxHeartbeats 4000000 in
theorem c_gives0_7 (l : Launch) (D : va_G) (y : wY) (ad : Nat → Nat) (M : Mem) (hs : M 7 5 = 0) (hu : M 7 4 = 1) (a b c0 : Int32) : MI l D y ad yX4_gives (Cond.code yX4_gives cX4_gives 5 (some .int)) 1 M [.ref (ad 7), .int a, .int b, .int c0] (fun r _ => clampI (9 - a / 11) = r) := by
  refine MI_of (by decide) (Nat.le_of_ble_eq_true rfl) ?_
  intro p e s m args below meth c X hr hlocks
  refine j_lv (lv1 := [(0, .ref (ad 7)), (1, .int a), (2, .int b), (3, .int c0)]) [0, 1, 2, 3] rfl ?_
  refine j_aload_n X 0 rfl rfl dX4_gives_0 ?_
  refine j_get X (by decide) (wE_4 _ rfl) rfl awF4 5 (by decide) aw_73 rfl (v := .int (M 7 5)) rfl dX4_gives_1 ?_
  refine j_eqi (v := 0) hs ?_
  refine j_if_le X 17 (by decide) dX4_gives_4 (fun c_1 => ?_) (fun c_1 => False.elim (by revert c_1; decide))
  refine j_aload_n X 0 rfl rfl dX4_gives_17 ?_
  refine j_get X (by decide) (wE_4 _ rfl) rfl awF4 4 (by decide) aw_72 rfl (v := .int (M 7 4)) rfl dX4_gives_18 ?_
  refine j_eqi (v := 1) hu ?_
  refine j_if_ne X 29 (by decide) dX4_gives_21 (fun c_2 => ?_) (fun c_2 => False.elim (by revert c_2; decide))
  refine j_bipush X (v := 9) (by decide) dX4_gives_29 ?_
  refine j_iload_n X 1 rfl rfl dX4_gives_31 ?_
  refine j_bipush X (v := 11) (by decide) dX4_gives_32 ?_
  refine j_idiv X (by decide) dX4_gives_34 ?_
  refine j_isub X dX4_gives_35 ?_
  refine j_istore X [(4, .int (9 - (a / 11))), (0, .ref (ad 7)), (1, .int a), (2, .int b), (3, .int c0)] (by decide) rfl dX4_gives_36 ?_
  refine j_iconst X (v := 0) (by decide) dX4_gives_38 ?_
  refine j_bipush X (v := 99) (by decide) dX4_gives_39 ?_
  refine j_iload X 0 rfl dX4_gives_41 ?_
  refine j_mmin X aw_201 aw_202 aw_203 aw_204 (by decide) (Nat.le_of_ble_eq_true rfl) (by decide) (by decide) dX4_gives_43 ?_
  refine j_mmax X aw_205 aw_206 aw_203 aw_207 (by decide) (Nat.le_of_ble_eq_true rfl) (by decide) (by decide) dX4_gives_46 ?_
  exact j_iret X hr hlocks dX4_gives_49 (by unfold clampI; exact (clamp1 _).symm)
set_option maxRecDepth 100000 in
set_option maxHeartbeats 4000000 in
theorem c0_X7_law (l : Launch) (D : va_G) (y : wY) (ad : Nat → Nat) (M : Mem) (hz : Z0 M) (u a b c : Int32) : MI l D y ad yX7_law (Cond.code yX7_law cX7_law 5 (some .int)) 6 M [.ref (ad 0), .int u, .int a, .int b, .int c] (fun r _ => sp_law u a b c = r) := by
  refine MI_of (by decide) (Nat.le_of_ble_eq_true rfl) ?_
  intro p e s m args below meth c X hr hlocks
  refine j_lv (lv1 := [(0, .ref (ad 0)), (1, .int u), (2, .int a), (3, .int b), (4, .int c)]) [0, 1, 2, 3, 4] rfl ?_
  refine j_iload_n X 1 rfl rfl dX7_law_0 ?_
  refine j_iconst X (v := 0) (by decide) dX7_law_1 ?_
  refine j_iconst X (v := 1) (by decide) dX7_law_2 ?_
  refine j_callSI X (nn := 3) (As := [.int u, .int 0, .int 1]) (st := []) aw_110 (c_X7_isWithin l D y ad M u 0 1 0 1 (by decide) (by decide)) aw_109 aw_111 aw_2 (by decide +kernel) ⟨by decide, by decide⟩ rfl (Nat.le_of_ble_eq_true rfl) ⟨by decide, by decide⟩ dX7_law_3 ?_
  rintro r_ M1_ (⟨rfl, rfl, h_1⟩ | ⟨rfl, rfl, h_1⟩)
  · refine j_if_ne X 16 (by decide) dX7_law_6 (fun c_2 => ?_) (fun c_2 => False.elim (by revert c_2; decide))
    refine j_aload_n X 0 rfl rfl dX7_law_16 ?_
    refine j_get X (by decide) (wE_7 _ rfl) rfl awF7 0 (by decide) aw_16 rfl (v := .ref (ad 1)) rfl dX7_law_17 ?_
    refine j_iload_n X 1 rfl rfl dX7_law_20 ?_
    refine j_callVNR X (nn := 1) (As := [.int u]) (st := []) (ci := 6) (by decide) (wE_6 _ rfl) rfl aw_366 aw_367 (c_textOf_1 l D y ad M u) (List.mem_of_getElem? (i := 24) rfl) aw_368 aw_15 (by decide +kernel) ⟨by decide, by decide⟩ rfl (Nat.le_of_ble_eq_true rfl) ⟨by decide, by decide⟩ dX7_law_21 ?_
    rintro r_ M1_ (⟨rfl, rfl, h_3⟩ | ⟨rfl, rfl, h_3⟩)
    · refine j_iload_n X 2 rfl rfl dX7_law_24 ?_
      refine j_iload_n X 3 rfl rfl dX7_law_25 ?_
      refine j_iload X 4 rfl dX7_law_26 ?_
      refine j_callVNI X (nn := 3) (As := [.int a, .int b, .int c]) (st := []) (ci := 4) (by decide) (wE_4 _ rfl) rfl aw_198 aw_199 (c_gives0_2 l D y ad M hz.2.2.2.2.2.2.2.2.2.2.2.2.2.2.2.2.1 hz.2.2.2.2.2.2.2.2.2.2.2.2.2.2.2.1 a b c) (List.mem_of_getElem? (i := 26) rfl) aw_200 aw_41 (by decide +kernel) ⟨by decide, by decide⟩ rfl (Nat.le_of_ble_eq_true rfl) ⟨by decide, by decide⟩ dX7_law_28 ?_
      rintro r_ M1_ rfl
      exact j_iret X hr hlocks dX7_law_31 (by unfold sp_law; (repeat' split) <;> first | rfl | omega | (exfalso; omega))
    · refine j_iload_n X 2 rfl rfl dX7_law_24 ?_
      refine j_iload_n X 3 rfl rfl dX7_law_25 ?_
      refine j_iload X 4 rfl dX7_law_26 ?_
      refine j_callVNI X (nn := 3) (As := [.int a, .int b, .int c]) (st := []) (ci := 4) (by decide) (wE_4 _ rfl) rfl aw_198 aw_199 (c_gives0_7 l D y ad M hz.2.2.2.2.2.2.2.2.2.2.2.2.2.2.2.2.2.2.1 hz.2.2.2.2.2.2.2.2.2.2.2.2.2.2.2.2.2.1 a b c) (List.mem_of_getElem? (i := 26) rfl) aw_200 aw_41 (by decide +kernel) ⟨by decide, by decide⟩ rfl (Nat.le_of_ble_eq_true rfl) ⟨by decide, by decide⟩ dX7_law_28 ?_
      rintro r_ M1_ rfl
      exact j_iret X hr hlocks dX7_law_31 (by unfold sp_law clampI; rw [if_pos (by omega), if_neg (by omega)])
  · refine j_if_ne X 16 (by decide) dX7_law_6 (fun c_4 => False.elim (by revert c_4; decide)) (fun c_4 => ?_)
    refine j_aload_n X 0 rfl rfl dX7_law_9 ?_
    refine j_ldc X (v := (-1000000001)) aw_108 dX7_law_10 ?_
    refine j_callVI X (nn := 1) (As := [.int (-1000000001)]) (st := []) (ci := 7) (by decide) (wE_7 _ rfl) rfl aw_117 aw_118 (c_X7_refuse l D y ad M (-1000000001) 1 (by decide) (by decide)) aw_116 aw_119 aw_2 (by decide +kernel) ⟨by decide, by decide⟩ rfl (Nat.le_of_ble_eq_true rfl) ⟨by decide, by decide⟩ dX7_law_12 ?_
    rintro r_ M1_ ⟨rfl, rfl⟩
    exact j_iret X hr hlocks dX7_law_15 (by unfold sp_law; (repeat' split) <;> first | rfl | omega | (exfalso; omega))
set_option maxRecDepth 100000 in
set_option maxHeartbeats 4000000 in
theorem c_next0 (l : Launch) (D : va_G) (y : wY) (ad : Nat → Nat) (M : Mem) (hm : M 60 2 = 0) (hp : M 60 3 = 0) : MI l D y ad yX2_next (Cond.code yX2_next cX2_next 1 (some .int)) 0 M [.ref (ad 60)] (fun r M' => (-1) = r ∧ M = M') := by
  refine MI_of (by decide) (Nat.le_of_ble_eq_true rfl) ?_
  intro p e s m args below meth c X hr hlocks
  refine j_lv (lv1 := [(0, .ref (ad 60))]) [0] rfl ?_
  refine j_aload_n X 0 rfl rfl dX2_next_0 ?_
  refine j_get X (by decide) (wE_2 _ rfl) rfl awF2 3 (by decide) aw_323 rfl (v := .int (M 60 3)) rfl dX2_next_1 ?_
  refine j_eqi (v := 0) hp ?_
  refine j_aload_n X 0 rfl rfl dX2_next_4 ?_
  refine j_get X (by decide) (wE_2 _ rfl) rfl awF2 2 (by decide) aw_318 rfl (v := .int (M 60 2)) rfl dX2_next_5 ?_
  refine j_eqi (v := 0) hm ?_
  refine j_icmp_ge X 23 (by decide) dX2_next_8 (fun c_1 => ?_) (fun c_1 => False.elim (by revert c_1; decide))
  refine j_iconst X (v := (-1)) (by decide) dX2_next_23 ?_
  exact j_iret X hr hlocks dX2_next_24 ⟨rfl, rfl⟩
set_option maxRecDepth 100000 in
set_option maxHeartbeats 4000000 in
theorem c_isDigit0 (l : Launch) (D : va_G) (y : wY) (ad : Nat → Nat) (M : Mem)  : MI l D y ad yX2_isDigit (Cond.code yX2_isDigit cX2_isDigit 1 (some .boolean)) 1 M [.int (-1)] (fun r M' => 0 = r ∧ M = M') := by
  refine MI_of (by decide) (Nat.le_of_ble_eq_true rfl) ?_
  intro p e s m args below meth c X hr hlocks
  refine j_lv (lv1 := [(0, .int (-1))]) [0] rfl ?_
  refine j_iload_n X 0 rfl rfl dX2_isDigit_0 ?_
  refine j_bipush X (v := 48) (by decide) dX2_isDigit_1 ?_
  refine j_bipush X (v := 57) (by decide) dX2_isDigit_3 ?_
  refine j_callSNI X (nn := 3) (As := [.int (-1), .int 48, .int 57]) (st := []) aw_110 (c_X7_isWithin l D y ad M (-1) 48 57 48 57 (by decide) (by decide)) (List.mem_of_getElem? (i := 22) rfl) aw_111 aw_2 (by decide +kernel) ⟨by decide, by decide⟩ rfl (Nat.le_of_ble_eq_true rfl) ⟨by decide, by decide⟩ dX2_isDigit_5 ?_
  rintro r_ M1_ (⟨rfl, rfl, h_1⟩ | ⟨rfl, rfl, h_1⟩)
  · exact absurd h_1 (by decide)
  · exact j_zret X hr hlocks (Or.inl rfl) dX2_isDigit_8 ⟨rfl, rfl⟩
set_option maxRecDepth 100000 in
set_option maxHeartbeats 4000000 in
theorem c_nameOf0 (l : Launch) (D : va_G) (y : wY) (ad : Nat → Nat) (M : Mem)  : MI l D y ad yX2_nameOf (Cond.code yX2_nameOf cX2_nameOf 2 (some .int)) 0 M [.ref (ad 60), .int (-1)] (fun r M' => (-1) = r ∧ M = M') := by
  refine MI_of (by decide) (Nat.le_of_ble_eq_true rfl) ?_
  intro p e s m args below meth c X hr hlocks
  refine j_lv (lv1 := [(0, .ref (ad 60)), (1, .int (-1))]) [0, 1] rfl ?_
  refine j_iload_n X 1 rfl rfl dX2_nameOf_0 ?_
  refine j_bipush X (v := 101) (by decide) dX2_nameOf_1 ?_
  refine j_icmp_ne X 8 (by decide) dX2_nameOf_3 (fun c_1 => ?_) (fun c_1 => False.elim (by revert c_1; decide))
  refine j_iload_n X 1 rfl rfl dX2_nameOf_8 ?_
  refine j_bipush X (v := 97) (by decide) dX2_nameOf_9 ?_
  refine j_icmp_ne X 16 (by decide) dX2_nameOf_11 (fun c_2 => ?_) (fun c_2 => False.elim (by revert c_2; decide))
  refine j_iload_n X 1 rfl rfl dX2_nameOf_16 ?_
  refine j_aload_n X 0 rfl rfl dX2_nameOf_17 ?_
  refine j_get X (by decide) (wE_2 _ rfl) rfl awF2 0 (by decide) aw_78 rfl (v := .ref (ad 61)) rfl dX2_nameOf_18 ?_
  refine j_getN X (by decide) (wE_4 _ rfl) rfl awF4 4 (by decide) (List.mem_of_getElem? (i := 0) rfl) rfl (v := .int (M 61 4)) rfl dX2_nameOf_21 ?_
  refine j_if_ne X 32 (by decide) dX2_nameOf_24 (fun c_3 => ?_) (fun c_3 => ?_)
  · have qc_3 := ti_ne (n := 0) (by decide) c_3
    refine j_bipush X (v := 109) (by decide) dX2_nameOf_32 ?_
    refine j_icmp_ne X 41 (by decide) dX2_nameOf_34 (fun c_4 => ?_) (fun c_4 => False.elim (by revert c_4; decide))
    refine j_iconst X (v := (-1)) (by decide) dX2_nameOf_41 ?_
    exact j_iret X hr hlocks dX2_nameOf_42 ⟨rfl, rfl⟩
  · have qc_3 := ti_eq (n := 0) (by decide) c_3
    refine j_bipush X (v := 100) (by decide) dX2_nameOf_27 ?_
    refine j_goto X 34 (by decide) dX2_nameOf_29 ?_
    refine j_icmp_ne X 41 (by decide) dX2_nameOf_34 (fun c_5 => ?_) (fun c_5 => False.elim (by revert c_5; decide))
    refine j_iconst X (v := (-1)) (by decide) dX2_nameOf_41 ?_
    exact j_iret X hr hlocks dX2_nameOf_42 ⟨rfl, rfl⟩
set_option maxRecDepth 100000 in
set_option maxHeartbeats 4000000 in
theorem c_stop0 (l : Launch) (D : va_G) (y : wY) (ad : Nat → Nat) (M : Mem) (hp : M 60 3 = 0) (hf : M 60 4 = (-1)) : MI l D y ad yX2_stop (Cond.code yX2_stop cX2_stop 1 (some .int)) 0 M [.ref (ad 60)] (fun r M' => 0 = r ∧ up M 60 4 0 = M') := by
  refine MI_of (by decide) (Nat.le_of_ble_eq_true rfl) ?_
  intro p e s m args below meth c X hr hlocks
  refine j_lv (lv1 := [(0, .ref (ad 60))]) [0] rfl ?_
  refine j_aload_n X 0 rfl rfl dX2_stop_0 ?_
  refine j_get X (by decide) (wE_2 _ rfl) rfl awF2 4 (by decide) aw_324 rfl (v := .int (M 60 4)) rfl dX2_stop_1 ?_
  refine j_eqi (v := (-1)) hf ?_
  refine j_if_ge X 15 (by decide) dX2_stop_4 (fun c_1 => False.elim (by revert c_1; decide)) (fun c_1 => ?_)
  refine j_aload_n X 0 rfl rfl dX2_stop_7 ?_
  refine j_aload_n X 0 rfl rfl dX2_stop_8 ?_
  refine j_get X (by decide) (wE_2 _ rfl) rfl awF2 3 (by decide) aw_323 rfl (v := .int (M 60 3)) rfl dX2_stop_9 ?_
  refine j_eqi (v := 0) hp ?_
  refine j_put X (up M 60 4 0) up_o (by decide) (wE_2 _ rfl) rfl awF2 4 (by decide) (wP_2_4 _ _ rfl) tyX2 tyX2_ok nmX2 rfl (ty := .int) (by decide +kernel) rfl rfl (Nat.le_of_ble_eq_true rfl) aw_324 rfl dX2_stop_12 ?_
  refine j_iconst X (v := 0) (by decide) dX2_stop_15 ?_
  exact j_iret X hr hlocks dX2_stop_16 ⟨rfl, rfl⟩
set_option maxRecDepth 100000 in
set_option maxHeartbeats 4000000 in
theorem c_readInnermost0 (l : Launch) (D : va_G) (y : wY) (ad : Nat → Nat) (M : Mem) (hm : M 60 2 = 0) (hp : M 60 3 = 0) (hf : M 60 4 = (-1)) : MI l D y ad yX2_readInnermost (Cond.code yX2_readInnermost cX2_readInnermost 3 (some .int)) 2 M [.ref (ad 60), .int 0] (fun r M' => 0 = r ∧ up M 60 4 0 = M') := by
  refine MI_of (by decide) (Nat.le_of_ble_eq_true rfl) ?_
  intro p e s m args below meth c X hr hlocks
  refine j_lv (lv1 := [(0, .ref (ad 60)), (1, .int 0)]) [0, 1] rfl ?_
  refine j_aload_n X 0 rfl rfl dX2_readInnermost_0 ?_
  refine j_callVI X (nn := 0) (As := []) (st := []) (ci := 2) (by decide) (wE_2 _ rfl) rfl aw_333 aw_334 (c_next0 l D y ad M hm hp) aw_332 aw_335 aw_24 (by decide +kernel) ⟨by decide, by decide⟩ rfl (Nat.le_of_ble_eq_true rfl) ⟨by decide, by decide⟩ dX2_readInnermost_1 ?_
  rintro r_ M1_ ⟨rfl, rfl⟩
  refine j_istore_n X [(2, .int (-1)), (0, .ref (ad 60)), (1, .int 0)] rfl (by decide) rfl dX2_readInnermost_4 ?_
  refine j_iload_n X 0 rfl rfl dX2_readInnermost_5 ?_
  refine j_callSI X (nn := 1) (As := [.int (-1)]) (st := []) aw_349 (c_isDigit0 l D y ad M) aw_348 aw_350 aw_24 (by decide +kernel) ⟨by decide, by decide⟩ rfl (Nat.le_of_ble_eq_true rfl) ⟨by decide, by decide⟩ dX2_readInnermost_6 ?_
  rintro r_ M1_ ⟨rfl, rfl⟩
  refine j_if_eq X 17 (by decide) dX2_readInnermost_9 (fun c_1 => ?_) (fun c_1 => False.elim (by revert c_1; decide))
  refine j_aload_n X 1 rfl rfl dX2_readInnermost_17 ?_
  refine j_iload_n X 0 rfl rfl dX2_readInnermost_18 ?_
  refine j_callVI X (nn := 1) (As := [.int (-1)]) (st := []) (ci := 2) (by decide) (wE_2 _ rfl) rfl aw_356 aw_357 (c_nameOf0 l D y ad M) aw_355 aw_358 aw_24 (by decide +kernel) ⟨by decide, by decide⟩ rfl (Nat.le_of_ble_eq_true rfl) ⟨by decide, by decide⟩ dX2_readInnermost_19 ?_
  rintro r_ M1_ ⟨rfl, rfl⟩
  refine j_if_lt X 51 (by decide) dX2_readInnermost_22 (fun c_2 => ?_) (fun c_2 => False.elim (by revert c_2; decide))
  refine j_iload_n X 0 rfl rfl dX2_readInnermost_51 ?_
  refine j_bipush X (v := 33) (by decide) dX2_readInnermost_52 ?_
  refine j_icmp_eq X 63 (by decide) dX2_readInnermost_54 (fun c_3 => False.elim (by revert c_3; decide)) (fun c_3 => ?_)
  refine j_iload_n X 0 rfl rfl dX2_readInnermost_57 ?_
  refine j_bipush X (v := 40) (by decide) dX2_readInnermost_58 ?_
  refine j_icmp_ne X 102 (by decide) dX2_readInnermost_60 (fun c_4 => ?_) (fun c_4 => False.elim (by revert c_4; decide))
  refine j_aload_n X 1 rfl rfl dX2_readInnermost_102 ?_
  refine j_callVI X (nn := 0) (As := []) (st := []) (ci := 2) (by decide) (wE_2 _ rfl) rfl aw_344 aw_345 (c_stop0 l D y ad M hp hf) aw_343 aw_346 aw_24 (by decide +kernel) ⟨by decide, by decide⟩ rfl (Nat.le_of_ble_eq_true rfl) ⟨by decide, by decide⟩ dX2_readInnermost_103 ?_
  rintro r_ M1_ ⟨rfl, rfl⟩
  exact j_iret X hr hlocks dX2_readInnermost_106 ⟨rfl, rfl⟩
set_option maxRecDepth 100000 in
set_option maxHeartbeats 4000000 in
theorem c_readLevel0_5 (l : Launch) (D : va_G) (y : wY) (ad : Nat → Nat) (M : Mem) (hm : M 60 2 = 0) (hp : M 60 3 = 0) (hf : M 60 4 = (-1)) : MI l D y ad yX2_readLevel (Cond.code yX2_readLevel cX2_readLevel 8 (some .int)) 3 M [.ref (ad 60), .int 5, .int 0] (fun r M' => 0 = r ∧ up M 60 4 0 = M') := by
  refine MI_of (by decide) (Nat.le_of_ble_eq_true rfl) ?_
  intro p e s m args below meth c X hr hlocks
  refine j_lv (lv1 := [(0, .ref (ad 60)), (1, .int 5), (2, .int 0)]) [0, 1, 2] rfl ?_
  refine j_iload_n X 1 rfl rfl dX2_readLevel_0 ?_
  refine j_iconst X (v := 5) (by decide) dX2_readLevel_1 ?_
  refine j_icmp_lt X 11 (by decide) dX2_readLevel_2 (fun c_1 => False.elim (by revert c_1; decide)) (fun c_1 => ?_)
  refine j_aload_n X 0 rfl rfl dX2_readLevel_5 ?_
  refine j_iload_n X 2 rfl rfl dX2_readLevel_6 ?_
  refine j_callVI X (nn := 1) (As := [.int 0]) (st := []) (ci := 2) (by decide) (wE_2 _ rfl) rfl aw_330 aw_331 (c_readInnermost0 l D y ad M hm hp hf) aw_329 aw_347 aw_24 (by decide +kernel) ⟨by decide, by decide⟩ rfl (Nat.le_of_ble_eq_true rfl) ⟨by decide, by decide⟩ dX2_readLevel_7 ?_
  rintro r_ M1_ ⟨rfl, rfl⟩
  exact j_iret X hr hlocks dX2_readLevel_10 ⟨rfl, rfl⟩
set_option maxRecDepth 100000 in
set_option maxHeartbeats 4000000 in
theorem c_readLevel0_4 (l : Launch) (D : va_G) (y : wY) (ad : Nat → Nat) (M : Mem) (hm : M 60 2 = 0) (hp : M 60 3 = 0) (hf : M 60 4 = (-1)) : MI l D y ad yX2_readLevel (Cond.code yX2_readLevel cX2_readLevel 8 (some .int)) 4 M [.ref (ad 60), .int 4, .int 0] (fun r M' => 0 = r ∧ up M 60 4 0 = M') := by
  refine MI_of (by decide) (Nat.le_of_ble_eq_true rfl) ?_
  intro p e s m args below meth c X hr hlocks
  refine j_lv (lv1 := [(0, .ref (ad 60)), (1, .int 4), (2, .int 0)]) [0, 1, 2] rfl ?_
  refine j_iload_n X 1 rfl rfl dX2_readLevel_0 ?_
  refine j_iconst X (v := 5) (by decide) dX2_readLevel_1 ?_
  refine j_icmp_lt X 11 (by decide) dX2_readLevel_2 (fun c_1 => ?_) (fun c_1 => False.elim (by revert c_1; decide))
  refine j_aload_n X 0 rfl rfl dX2_readLevel_11 ?_
  refine j_iload_n X 1 rfl rfl dX2_readLevel_12 ?_
  refine j_iconst X (v := 1) (by decide) dX2_readLevel_13 ?_
  refine j_iadd X dX2_readLevel_14 ?_
  refine j_eqi (v := 5) (by decide) ?_
  refine j_iload_n X 2 rfl rfl dX2_readLevel_15 ?_
  refine j_callVI X (nn := 2) (As := [.int 5, .int 0]) (st := []) (ci := 2) (by decide) (wE_2 _ rfl) rfl aw_326 aw_327 (c_readLevel0_5 l D y ad M hm hp hf) aw_325 aw_328 aw_24 (by decide +kernel) ⟨by decide, by decide⟩ rfl (Nat.le_of_ble_eq_true rfl) ⟨by decide, by decide⟩ dX2_readLevel_16 ?_
  rintro r_ M1_ ⟨rfl, rfl⟩
  refine j_istore_n X [(3, .int 0), (0, .ref (ad 60)), (1, .int 4), (2, .int 0)] rfl (by decide) rfl dX2_readLevel_19 ?_
  refine j_iload_n X 2 rfl rfl dX2_readLevel_20 ?_
  refine j_iconst X (v := 2) (by decide) dX2_readLevel_21 ?_
  refine j_icmp_ne X 29 (by decide) dX2_readLevel_22 (fun c_2 => ?_) (fun c_2 => False.elim (by revert c_2; decide))
  refine j_bipush X (v := 50) (by decide) dX2_readLevel_29 ?_
  refine j_istore X [(4, .int 50), (3, .int 0), (0, .ref (ad 60)), (1, .int 4), (2, .int 0)] (by decide) rfl dX2_readLevel_31 ?_
  refine j_iconst X (v := 0) (by decide) dX2_readLevel_33 ?_
  refine j_istore X [(5, .int 0), (4, .int 50), (3, .int 0), (0, .ref (ad 60)), (1, .int 4), (2, .int 0)] (by decide) rfl dX2_readLevel_34 ?_
  refine j_iload X 0 rfl dX2_readLevel_36 ?_
  refine j_iload X 1 rfl dX2_readLevel_38 ?_
  refine j_icmp_ge X 106 (by decide) dX2_readLevel_40 (fun c_3 => False.elim (by revert c_3; decide)) (fun c_3 => ?_)
  refine j_aload_n X 3 rfl rfl dX2_readLevel_43 ?_
  refine j_get X (by decide) (wE_2 _ rfl) rfl awF2 4 (by decide) aw_324 rfl (v := .int ((up M 60 4 0) 60 4)) rfl dX2_readLevel_44 ?_
  refine j_eqi (v := 0) (by simp [up]) ?_
  refine j_if_ge X 106 (by decide) dX2_readLevel_47 (fun c_4 => ?_) (fun c_4 => False.elim (by revert c_4; decide))
  refine j_iload_n X 2 rfl rfl dX2_readLevel_106 ?_
  exact j_iret X hr hlocks dX2_readLevel_107 ⟨rfl, rfl⟩
set_option maxRecDepth 100000 in
set_option maxHeartbeats 4000000 in
theorem c_readLevel0_3 (l : Launch) (D : va_G) (y : wY) (ad : Nat → Nat) (M : Mem) (hm : M 60 2 = 0) (hp : M 60 3 = 0) (hf : M 60 4 = (-1)) : MI l D y ad yX2_readLevel (Cond.code yX2_readLevel cX2_readLevel 8 (some .int)) 5 M [.ref (ad 60), .int 3, .int 0] (fun r M' => 0 = r ∧ up M 60 4 0 = M') := by
  refine MI_of (by decide) (Nat.le_of_ble_eq_true rfl) ?_
  intro p e s m args below meth c X hr hlocks
  refine j_lv (lv1 := [(0, .ref (ad 60)), (1, .int 3), (2, .int 0)]) [0, 1, 2] rfl ?_
  refine j_iload_n X 1 rfl rfl dX2_readLevel_0 ?_
  refine j_iconst X (v := 5) (by decide) dX2_readLevel_1 ?_
  refine j_icmp_lt X 11 (by decide) dX2_readLevel_2 (fun c_1 => ?_) (fun c_1 => False.elim (by revert c_1; decide))
  refine j_aload_n X 0 rfl rfl dX2_readLevel_11 ?_
  refine j_iload_n X 1 rfl rfl dX2_readLevel_12 ?_
  refine j_iconst X (v := 1) (by decide) dX2_readLevel_13 ?_
  refine j_iadd X dX2_readLevel_14 ?_
  refine j_eqi (v := 4) (by decide) ?_
  refine j_iload_n X 2 rfl rfl dX2_readLevel_15 ?_
  refine j_callVI X (nn := 2) (As := [.int 4, .int 0]) (st := []) (ci := 2) (by decide) (wE_2 _ rfl) rfl aw_326 aw_327 (c_readLevel0_4 l D y ad M hm hp hf) aw_325 aw_328 aw_24 (by decide +kernel) ⟨by decide, by decide⟩ rfl (Nat.le_of_ble_eq_true rfl) ⟨by decide, by decide⟩ dX2_readLevel_16 ?_
  rintro r_ M1_ ⟨rfl, rfl⟩
  refine j_istore_n X [(3, .int 0), (0, .ref (ad 60)), (1, .int 3), (2, .int 0)] rfl (by decide) rfl dX2_readLevel_19 ?_
  refine j_iload_n X 2 rfl rfl dX2_readLevel_20 ?_
  refine j_iconst X (v := 2) (by decide) dX2_readLevel_21 ?_
  refine j_icmp_ne X 29 (by decide) dX2_readLevel_22 (fun c_2 => ?_) (fun c_2 => False.elim (by revert c_2; decide))
  refine j_bipush X (v := 50) (by decide) dX2_readLevel_29 ?_
  refine j_istore X [(4, .int 50), (3, .int 0), (0, .ref (ad 60)), (1, .int 3), (2, .int 0)] (by decide) rfl dX2_readLevel_31 ?_
  refine j_iconst X (v := 0) (by decide) dX2_readLevel_33 ?_
  refine j_istore X [(5, .int 0), (4, .int 50), (3, .int 0), (0, .ref (ad 60)), (1, .int 3), (2, .int 0)] (by decide) rfl dX2_readLevel_34 ?_
  refine j_iload X 0 rfl dX2_readLevel_36 ?_
  refine j_iload X 1 rfl dX2_readLevel_38 ?_
  refine j_icmp_ge X 106 (by decide) dX2_readLevel_40 (fun c_3 => False.elim (by revert c_3; decide)) (fun c_3 => ?_)
  refine j_aload_n X 3 rfl rfl dX2_readLevel_43 ?_
  refine j_get X (by decide) (wE_2 _ rfl) rfl awF2 4 (by decide) aw_324 rfl (v := .int ((up M 60 4 0) 60 4)) rfl dX2_readLevel_44 ?_
  refine j_eqi (v := 0) (by simp [up]) ?_
  refine j_if_ge X 106 (by decide) dX2_readLevel_47 (fun c_4 => ?_) (fun c_4 => False.elim (by revert c_4; decide))
  refine j_iload_n X 2 rfl rfl dX2_readLevel_106 ?_
  exact j_iret X hr hlocks dX2_readLevel_107 ⟨rfl, rfl⟩
set_option maxRecDepth 100000 in
set_option maxHeartbeats 4000000 in
theorem c_readLevel0_2 (l : Launch) (D : va_G) (y : wY) (ad : Nat → Nat) (M : Mem) (hm : M 60 2 = 0) (hp : M 60 3 = 0) (hf : M 60 4 = (-1)) : MI l D y ad yX2_readLevel (Cond.code yX2_readLevel cX2_readLevel 8 (some .int)) 6 M [.ref (ad 60), .int 2, .int 0] (fun r M' => 0 = r ∧ up M 60 4 0 = M') := by
  refine MI_of (by decide) (Nat.le_of_ble_eq_true rfl) ?_
  intro p e s m args below meth c X hr hlocks
  refine j_lv (lv1 := [(0, .ref (ad 60)), (1, .int 2), (2, .int 0)]) [0, 1, 2] rfl ?_
  refine j_iload_n X 1 rfl rfl dX2_readLevel_0 ?_
  refine j_iconst X (v := 5) (by decide) dX2_readLevel_1 ?_
  refine j_icmp_lt X 11 (by decide) dX2_readLevel_2 (fun c_1 => ?_) (fun c_1 => False.elim (by revert c_1; decide))
  refine j_aload_n X 0 rfl rfl dX2_readLevel_11 ?_
  refine j_iload_n X 1 rfl rfl dX2_readLevel_12 ?_
  refine j_iconst X (v := 1) (by decide) dX2_readLevel_13 ?_
  refine j_iadd X dX2_readLevel_14 ?_
  refine j_eqi (v := 3) (by decide) ?_
  refine j_iload_n X 2 rfl rfl dX2_readLevel_15 ?_
  refine j_callVI X (nn := 2) (As := [.int 3, .int 0]) (st := []) (ci := 2) (by decide) (wE_2 _ rfl) rfl aw_326 aw_327 (c_readLevel0_3 l D y ad M hm hp hf) aw_325 aw_328 aw_24 (by decide +kernel) ⟨by decide, by decide⟩ rfl (Nat.le_of_ble_eq_true rfl) ⟨by decide, by decide⟩ dX2_readLevel_16 ?_
  rintro r_ M1_ ⟨rfl, rfl⟩
  refine j_istore_n X [(3, .int 0), (0, .ref (ad 60)), (1, .int 2), (2, .int 0)] rfl (by decide) rfl dX2_readLevel_19 ?_
  refine j_iload_n X 2 rfl rfl dX2_readLevel_20 ?_
  refine j_iconst X (v := 2) (by decide) dX2_readLevel_21 ?_
  refine j_icmp_ne X 29 (by decide) dX2_readLevel_22 (fun c_2 => False.elim (by revert c_2; decide)) (fun c_2 => ?_)
  refine j_iconst X (v := 1) (by decide) dX2_readLevel_25 ?_
  refine j_goto X 31 (by decide) dX2_readLevel_26 ?_
  refine j_istore X [(4, .int 1), (3, .int 0), (0, .ref (ad 60)), (1, .int 2), (2, .int 0)] (by decide) rfl dX2_readLevel_31 ?_
  refine j_iconst X (v := 0) (by decide) dX2_readLevel_33 ?_
  refine j_istore X [(5, .int 0), (4, .int 1), (3, .int 0), (0, .ref (ad 60)), (1, .int 2), (2, .int 0)] (by decide) rfl dX2_readLevel_34 ?_
  refine j_iload X 0 rfl dX2_readLevel_36 ?_
  refine j_iload X 1 rfl dX2_readLevel_38 ?_
  refine j_icmp_ge X 106 (by decide) dX2_readLevel_40 (fun c_3 => False.elim (by revert c_3; decide)) (fun c_3 => ?_)
  refine j_aload_n X 3 rfl rfl dX2_readLevel_43 ?_
  refine j_get X (by decide) (wE_2 _ rfl) rfl awF2 4 (by decide) aw_324 rfl (v := .int ((up M 60 4 0) 60 4)) rfl dX2_readLevel_44 ?_
  refine j_eqi (v := 0) (by simp [up]) ?_
  refine j_if_ge X 106 (by decide) dX2_readLevel_47 (fun c_4 => ?_) (fun c_4 => False.elim (by revert c_4; decide))
  refine j_iload_n X 2 rfl rfl dX2_readLevel_106 ?_
  exact j_iret X hr hlocks dX2_readLevel_107 ⟨rfl, rfl⟩
set_option maxRecDepth 100000 in
set_option maxHeartbeats 4000000 in
theorem c_readLevel0_1 (l : Launch) (D : va_G) (y : wY) (ad : Nat → Nat) (M : Mem) (hm : M 60 2 = 0) (hp : M 60 3 = 0) (hf : M 60 4 = (-1)) : MI l D y ad yX2_readLevel (Cond.code yX2_readLevel cX2_readLevel 8 (some .int)) 7 M [.ref (ad 60), .int 1, .int 0] (fun r M' => 0 = r ∧ up M 60 4 0 = M') := by
  refine MI_of (by decide) (Nat.le_of_ble_eq_true rfl) ?_
  intro p e s m args below meth c X hr hlocks
  refine j_lv (lv1 := [(0, .ref (ad 60)), (1, .int 1), (2, .int 0)]) [0, 1, 2] rfl ?_
  refine j_iload_n X 1 rfl rfl dX2_readLevel_0 ?_
  refine j_iconst X (v := 5) (by decide) dX2_readLevel_1 ?_
  refine j_icmp_lt X 11 (by decide) dX2_readLevel_2 (fun c_1 => ?_) (fun c_1 => False.elim (by revert c_1; decide))
  refine j_aload_n X 0 rfl rfl dX2_readLevel_11 ?_
  refine j_iload_n X 1 rfl rfl dX2_readLevel_12 ?_
  refine j_iconst X (v := 1) (by decide) dX2_readLevel_13 ?_
  refine j_iadd X dX2_readLevel_14 ?_
  refine j_eqi (v := 2) (by decide) ?_
  refine j_iload_n X 2 rfl rfl dX2_readLevel_15 ?_
  refine j_callVI X (nn := 2) (As := [.int 2, .int 0]) (st := []) (ci := 2) (by decide) (wE_2 _ rfl) rfl aw_326 aw_327 (c_readLevel0_2 l D y ad M hm hp hf) aw_325 aw_328 aw_24 (by decide +kernel) ⟨by decide, by decide⟩ rfl (Nat.le_of_ble_eq_true rfl) ⟨by decide, by decide⟩ dX2_readLevel_16 ?_
  rintro r_ M1_ ⟨rfl, rfl⟩
  refine j_istore_n X [(3, .int 0), (0, .ref (ad 60)), (1, .int 1), (2, .int 0)] rfl (by decide) rfl dX2_readLevel_19 ?_
  refine j_iload_n X 2 rfl rfl dX2_readLevel_20 ?_
  refine j_iconst X (v := 2) (by decide) dX2_readLevel_21 ?_
  refine j_icmp_ne X 29 (by decide) dX2_readLevel_22 (fun c_2 => ?_) (fun c_2 => False.elim (by revert c_2; decide))
  refine j_bipush X (v := 50) (by decide) dX2_readLevel_29 ?_
  refine j_istore X [(4, .int 50), (3, .int 0), (0, .ref (ad 60)), (1, .int 1), (2, .int 0)] (by decide) rfl dX2_readLevel_31 ?_
  refine j_iconst X (v := 0) (by decide) dX2_readLevel_33 ?_
  refine j_istore X [(5, .int 0), (4, .int 50), (3, .int 0), (0, .ref (ad 60)), (1, .int 1), (2, .int 0)] (by decide) rfl dX2_readLevel_34 ?_
  refine j_iload X 0 rfl dX2_readLevel_36 ?_
  refine j_iload X 1 rfl dX2_readLevel_38 ?_
  refine j_icmp_ge X 106 (by decide) dX2_readLevel_40 (fun c_3 => False.elim (by revert c_3; decide)) (fun c_3 => ?_)
  refine j_aload_n X 3 rfl rfl dX2_readLevel_43 ?_
  refine j_get X (by decide) (wE_2 _ rfl) rfl awF2 4 (by decide) aw_324 rfl (v := .int ((up M 60 4 0) 60 4)) rfl dX2_readLevel_44 ?_
  refine j_eqi (v := 0) (by simp [up]) ?_
  refine j_if_ge X 106 (by decide) dX2_readLevel_47 (fun c_4 => ?_) (fun c_4 => False.elim (by revert c_4; decide))
  refine j_iload_n X 2 rfl rfl dX2_readLevel_106 ?_
  exact j_iret X hr hlocks dX2_readLevel_107 ⟨rfl, rfl⟩
set_option maxRecDepth 100000 in
set_option maxHeartbeats 4000000 in
theorem c_readLevel0_0 (l : Launch) (D : va_G) (y : wY) (ad : Nat → Nat) (M : Mem) (hm : M 60 2 = 0) (hp : M 60 3 = 0) (hf : M 60 4 = (-1)) : MI l D y ad yX2_readLevel (Cond.code yX2_readLevel cX2_readLevel 8 (some .int)) 8 M [.ref (ad 60), .int 0, .int 0] (fun r M' => 0 = r ∧ up M 60 4 0 = M') := by
  refine MI_of (by decide) (Nat.le_of_ble_eq_true rfl) ?_
  intro p e s m args below meth c X hr hlocks
  refine j_lv (lv1 := [(0, .ref (ad 60)), (1, .int 0), (2, .int 0)]) [0, 1, 2] rfl ?_
  refine j_iload_n X 1 rfl rfl dX2_readLevel_0 ?_
  refine j_iconst X (v := 5) (by decide) dX2_readLevel_1 ?_
  refine j_icmp_lt X 11 (by decide) dX2_readLevel_2 (fun c_1 => ?_) (fun c_1 => False.elim (by revert c_1; decide))
  refine j_aload_n X 0 rfl rfl dX2_readLevel_11 ?_
  refine j_iload_n X 1 rfl rfl dX2_readLevel_12 ?_
  refine j_iconst X (v := 1) (by decide) dX2_readLevel_13 ?_
  refine j_iadd X dX2_readLevel_14 ?_
  refine j_eqi (v := 1) (by decide) ?_
  refine j_iload_n X 2 rfl rfl dX2_readLevel_15 ?_
  refine j_callVI X (nn := 2) (As := [.int 1, .int 0]) (st := []) (ci := 2) (by decide) (wE_2 _ rfl) rfl aw_326 aw_327 (c_readLevel0_1 l D y ad M hm hp hf) aw_325 aw_328 aw_24 (by decide +kernel) ⟨by decide, by decide⟩ rfl (Nat.le_of_ble_eq_true rfl) ⟨by decide, by decide⟩ dX2_readLevel_16 ?_
  rintro r_ M1_ ⟨rfl, rfl⟩
  refine j_istore_n X [(3, .int 0), (0, .ref (ad 60)), (1, .int 0), (2, .int 0)] rfl (by decide) rfl dX2_readLevel_19 ?_
  refine j_iload_n X 2 rfl rfl dX2_readLevel_20 ?_
  refine j_iconst X (v := 2) (by decide) dX2_readLevel_21 ?_
  refine j_icmp_ne X 29 (by decide) dX2_readLevel_22 (fun c_2 => ?_) (fun c_2 => False.elim (by revert c_2; decide))
  refine j_bipush X (v := 50) (by decide) dX2_readLevel_29 ?_
  refine j_istore X [(4, .int 50), (3, .int 0), (0, .ref (ad 60)), (1, .int 0), (2, .int 0)] (by decide) rfl dX2_readLevel_31 ?_
  refine j_iconst X (v := 0) (by decide) dX2_readLevel_33 ?_
  refine j_istore X [(5, .int 0), (4, .int 50), (3, .int 0), (0, .ref (ad 60)), (1, .int 0), (2, .int 0)] (by decide) rfl dX2_readLevel_34 ?_
  refine j_iload X 0 rfl dX2_readLevel_36 ?_
  refine j_iload X 1 rfl dX2_readLevel_38 ?_
  refine j_icmp_ge X 106 (by decide) dX2_readLevel_40 (fun c_3 => False.elim (by revert c_3; decide)) (fun c_3 => ?_)
  refine j_aload_n X 3 rfl rfl dX2_readLevel_43 ?_
  refine j_get X (by decide) (wE_2 _ rfl) rfl awF2 4 (by decide) aw_324 rfl (v := .int ((up M 60 4 0) 60 4)) rfl dX2_readLevel_44 ?_
  refine j_eqi (v := 0) (by simp [up]) ?_
  refine j_if_ge X 106 (by decide) dX2_readLevel_47 (fun c_4 => ?_) (fun c_4 => False.elim (by revert c_4; decide))
  refine j_iload_n X 2 rfl rfl dX2_readLevel_106 ?_
  exact j_iret X hr hlocks dX2_readLevel_107 ⟨rfl, rfl⟩
set_option maxRecDepth 100000 in
set_option maxHeartbeats 4000000 in
theorem c_clear_61 (l : Launch) (D : va_G) (y : wY) (ad : Nat → Nat) (M : Mem) (u : Int32) : MV l D y ad yX4_clear (Cond.code yX4_clear cX4_clear 2 none) 0 M [.ref (ad 61), .int u] (fun M' => up (up M 61 4 u) 61 5 0 = M') := by
  refine MV_of (by decide) (Nat.le_of_ble_eq_true rfl) ?_
  intro p e s m args below meth c X hr hlocks
  refine j_lv (lv1 := [(0, .ref (ad 61)), (1, .int u)]) [0, 1] rfl ?_
  refine j_aload_n X 0 rfl rfl dX4_clear_0 ?_
  refine j_iload_n X 1 rfl rfl dX4_clear_1 ?_
  refine j_put X (up M 61 4 u) up_o (by decide) (wE_4 _ rfl) rfl awF4 4 (by decide) (wP_4_4 _ _ rfl) tyX4 tyX4_ok nmX4 rfl (ty := .int) (by decide +kernel) rfl rfl (Nat.le_of_ble_eq_true rfl) aw_72 rfl dX4_clear_2 ?_
  refine j_aload_n X 0 rfl rfl dX4_clear_5 ?_
  refine j_iconst X (v := 0) (by decide) dX4_clear_6 ?_
  refine j_put X (up (up M 61 4 u) 61 5 0) up_o (by decide) (wE_4 _ rfl) rfl awF4 5 (by decide) (wP_4_5 _ _ rfl) tyX4 tyX4_ok nmX4 rfl (ty := .int) (by decide +kernel) rfl rfl (Nat.le_of_ble_eq_true rfl) aw_73 rfl dX4_clear_7 ?_
  exact j_vret X hr hlocks dX4_clear_10 rfl
set_option maxRecDepth 100000 in
set_option maxHeartbeats 4000000 in
theorem c_read0 (l : Launch) (D : va_G) (y : wY) (ad : Nat → Nat) (M : Mem) (u : Int32) : MI l D y ad yX2_read (Cond.code yX2_read cX2_read 4 (some .int)) 9 M [.ref (ad 60), .ref (ad 23), .int 0, .int u] (fun r _ => 0 = r) := by
  refine MI_of (by decide) (Nat.le_of_ble_eq_true rfl) ?_
  intro p e s m args below meth c X hr hlocks
  refine j_lv (lv1 := [(0, .ref (ad 60)), (1, .ref (ad 23)), (2, .int 0), (3, .int u)]) [0, 1, 2, 3] rfl ?_
  refine j_aload_n X 0 rfl rfl dX2_read_0 ?_
  refine j_iload_n X 2 rfl rfl dX2_read_1 ?_
  refine j_bipush X (v := 50) (by decide) dX2_read_2 ?_
  refine j_mmin X aw_317 aw_202 aw_203 aw_204 (by decide) (Nat.le_of_ble_eq_true rfl) (by decide) (by decide) dX2_read_4 ?_
  refine j_eqi (v := 0) (by decide) ?_
  refine j_put X (up M 60 2 0) up_o (by decide) (wE_2 _ rfl) rfl awF2 2 (by decide) (wP_2_2 _ _ rfl) tyX2 tyX2_ok nmX2 rfl (ty := .int) (by decide +kernel) rfl rfl (Nat.le_of_ble_eq_true rfl) aw_318 rfl dX2_read_7 ?_
  refine j_aload_n X 1 rfl rfl dX2_read_10 ?_
  refine j_iconst X (v := 0) (by decide) dX2_read_11 ?_
  refine j_aload_n X 0 rfl rfl dX2_read_12 ?_
  refine j_get X (by decide) (wE_2 _ rfl) rfl awF2 1 (by decide) aw_79 rfl (v := .ref (ad 66)) rfl dX2_read_13 ?_
  refine j_iconst X (v := 0) (by decide) dX2_read_16 ?_
  refine j_aload_n X 0 rfl rfl dX2_read_17 ?_
  refine j_get X (by decide) (wE_2 _ rfl) rfl awF2 2 (by decide) aw_318 rfl (v := .int ((up M 60 2 0) 60 2)) rfl dX2_read_18 ?_
  refine j_eqi (v := 0) (by simp [up]) ?_
  refine j_copy X (i := 23) (j := 66) aw_319 aw_320 aw_321 aw_322 (by decide) (by decide) rfl rfl (by decide) (by decide) (by decide) (by decide) (by decide) (by decide) (by decide +kernel) dX2_read_21 ?_
  refine j_eqM (M1 := (up M 60 2 0)) copy0 ?_
  refine j_aload_n X 0 rfl rfl dX2_read_24 ?_
  refine j_iconst X (v := 0) (by decide) dX2_read_25 ?_
  refine j_put X (up (up M 60 2 0) 60 3 0) up_o (by decide) (wE_2 _ rfl) rfl awF2 3 (by decide) (wP_2_3 _ _ rfl) tyX2 tyX2_ok nmX2 rfl (ty := .int) (by decide +kernel) rfl rfl (Nat.le_of_ble_eq_true rfl) aw_323 rfl dX2_read_26 ?_
  refine j_aload_n X 0 rfl rfl dX2_read_29 ?_
  refine j_iconst X (v := (-1)) (by decide) dX2_read_30 ?_
  refine j_put X (up (up (up M 60 2 0) 60 3 0) 60 4 (-1)) up_o (by decide) (wE_2 _ rfl) rfl awF2 4 (by decide) (wP_2_4 _ _ rfl) tyX2 tyX2_ok nmX2 rfl (ty := .int) (by decide +kernel) rfl rfl (Nat.le_of_ble_eq_true rfl) aw_324 rfl dX2_read_31 ?_
  refine j_aload_n X 0 rfl rfl dX2_read_34 ?_
  refine j_get X (by decide) (wE_2 _ rfl) rfl awF2 0 (by decide) aw_78 rfl (v := .ref (ad 61)) rfl dX2_read_35 ?_
  refine j_iload_n X 3 rfl rfl dX2_read_38 ?_
  refine j_callVNV X (nn := 1) (As := [.int u]) (st := []) (ci := 4) (by decide) (wE_4 _ rfl) rfl aw_69 aw_70 (c_clear_61 l D y ad (up (up (up M 60 2 0) 60 3 0) 60 4 (-1)) u) (List.mem_of_getElem? (i := 21) rfl) aw_71 aw_41 (by decide +kernel) ⟨by decide, by decide⟩ rfl (Nat.le_of_ble_eq_true rfl) ⟨by decide, by decide⟩ dX2_read_39 ?_
  rintro M1_ rfl
  refine j_aload_n X 0 rfl rfl dX2_read_42 ?_
  refine j_iconst X (v := 0) (by decide) dX2_read_43 ?_
  refine j_iconst X (v := 0) (by decide) dX2_read_44 ?_
  refine j_callVI X (nn := 2) (As := [.int 0, .int 0]) (st := []) (ci := 2) (by decide) (wE_2 _ rfl) rfl aw_326 aw_327 (c_readLevel0_0 l D y ad (up (up (up (up (up M 60 2 0) 60 3 0) 60 4 (-1)) 61 4 u) 61 5 0) (by simp [up]) (by simp [up]) (by simp [up])) aw_325 aw_328 aw_24 (by decide +kernel) ⟨by decide, by decide⟩ rfl (Nat.le_of_ble_eq_true rfl) ⟨by decide, by decide⟩ dX2_read_45 ?_
  rintro r_ M1_ ⟨rfl, rfl⟩
  refine j_pop X rfl dX2_read_48 ?_
  refine j_aload_n X 0 rfl rfl dX2_read_49 ?_
  refine j_get X (by decide) (wE_2 _ rfl) rfl awF2 4 (by decide) aw_324 rfl (v := .int ((up (up (up (up (up (up M 60 2 0) 60 3 0) 60 4 (-1)) 61 4 u) 61 5 0) 60 4 0) 60 4)) rfl dX2_read_50 ?_
  refine j_eqi (v := 0) (by simp [up]) ?_
  refine j_if_ge X 75 (by decide) dX2_read_53 (fun c_1 => ?_) (fun c_1 => False.elim (by revert c_1; decide))
  refine j_aload_n X 0 rfl rfl dX2_read_75 ?_
  refine j_get X (by decide) (wE_2 _ rfl) rfl awF2 4 (by decide) aw_324 rfl (v := .int ((up (up (up (up (up (up M 60 2 0) 60 3 0) 60 4 (-1)) 61 4 u) 61 5 0) 60 4 0) 60 4)) rfl dX2_read_76 ?_
  refine j_eqi (v := 0) (by simp [up]) ?_
  exact j_iret X hr hlocks dX2_read_79 rfl
set_option maxRecDepth 100000 in
set_option maxHeartbeats 4000000 in
theorem c0_X7_text (l : Launch) (D : va_G) (y : wY) (ad : Nat → Nat) (M : Mem) (hz : Z0 M) (u : Int32) : MI l D y ad yX7_text (Cond.code yX7_text cX7_text 3 (some .int)) 10 M [.ref (ad 0), .int u] (fun r _ => sp_text u = r) := by
  refine MI_of (by decide) (Nat.le_of_ble_eq_true rfl) ?_
  intro p e s m args below meth c X hr hlocks
  refine j_lv (lv1 := [(0, .ref (ad 0)), (1, .int u)]) [0, 1] rfl ?_
  refine j_iload_n X 1 rfl rfl dX7_text_0 ?_
  refine j_iconst X (v := 0) (by decide) dX7_text_1 ?_
  refine j_iconst X (v := 1) (by decide) dX7_text_2 ?_
  refine j_callSI X (nn := 3) (As := [.int u, .int 0, .int 1]) (st := []) aw_110 (c_X7_isWithin l D y ad M u 0 1 0 1 (by decide) (by decide)) aw_109 aw_111 aw_2 (by decide +kernel) ⟨by decide, by decide⟩ rfl (Nat.le_of_ble_eq_true rfl) ⟨by decide, by decide⟩ dX7_text_3 ?_
  rintro r_ M1_ (⟨rfl, rfl, h_1⟩ | ⟨rfl, rfl, h_1⟩)
  · refine j_if_ne X 16 (by decide) dX7_text_6 (fun c_2 => ?_) (fun c_2 => False.elim (by revert c_2; decide))
    refine j_aload_n X 0 rfl rfl dX7_text_16 ?_
    refine j_get X (by decide) (wE_7 _ rfl) rfl awF7 3 (by decide) aw_25 rfl (v := .ref (ad 60)) rfl dX7_text_17 ?_
    refine j_aload_n X 0 rfl rfl dX7_text_20 ?_
    refine j_get X (by decide) (wE_7 _ rfl) rfl awF7 0 (by decide) aw_16 rfl (v := .ref (ad 1)) rfl dX7_text_21 ?_
    refine j_getN X (by decide) (wE_6 _ rfl) rfl awF6 3 (by decide) (List.mem_of_getElem? (i := 24) rfl) rfl (v := .ref (ad 23)) rfl dX7_text_24 ?_
    refine j_aload_n X 0 rfl rfl dX7_text_27 ?_
    refine j_get X (by decide) (wE_7 _ rfl) rfl awF7 0 (by decide) aw_16 rfl (v := .ref (ad 1)) rfl dX7_text_28 ?_
    refine j_getN X (by decide) (wE_6 _ rfl) rfl awF6 5 (by decide) (List.mem_of_getElem? (i := 26) rfl) rfl (v := .int (M 1 5)) rfl dX7_text_31 ?_
    refine j_eqi (v := 0) hz.2.2.2.2.2.2.1 ?_
    refine j_iload_n X 1 rfl rfl dX7_text_34 ?_
    refine j_callVNI X (nn := 3) (As := [.ref (ad 23), .int 0, .int u]) (st := []) (ci := 2) (by decide) (wE_2 _ rfl) rfl aw_314 aw_315 (c_read0 l D y ad M u) (List.mem_of_getElem? (i := 20) rfl) aw_316 aw_24 (by decide +kernel) ⟨by decide, by decide⟩ rfl (Nat.le_of_ble_eq_true rfl) ⟨by decide, by decide⟩ dX7_text_35 ?_
    rintro r_ M1_ rfl
    refine j_istore_n X [(2, .int 0), (0, .ref (ad 0)), (1, .int u)] rfl (by decide) rfl dX7_text_38 ?_
    refine j_aload_n X 1 rfl rfl dX7_text_39 ?_
    refine j_get X (by decide) (wE_7 _ rfl) rfl awF7 0 (by decide) aw_16 rfl (v := .ref (ad 1)) rfl dX7_text_40 ?_
    refine j_iconst X (v := 0) (by decide) dX7_text_43 ?_
    refine j_putN X (up M1_ 1 5 0) up_o (by decide) (wE_6 _ rfl) rfl awF6 5 (by decide) (wP_6_5 _ _ rfl) tyX6 tyX6_ok nmX6 rfl (ty := .int) (by decide +kernel) rfl rfl (Nat.le_of_ble_eq_true rfl) (List.mem_of_getElem? (i := 26) rfl) rfl dX7_text_44 ?_
    refine j_iload_n X 0 rfl rfl dX7_text_47 ?_
    refine j_if_lt X 56 (by decide) dX7_text_48 (fun c_3 => False.elim (by revert c_3; decide)) (fun c_3 => ?_)
    refine j_bipush X (v := (-10)) (by decide) dX7_text_51 ?_
    refine j_iload_n X 0 rfl rfl dX7_text_53 ?_
    refine j_isub X dX7_text_54 ?_
    refine j_eqi (v := (-10)) (by decide) ?_
    exact j_iret X hr hlocks dX7_text_55 (by unfold sp_text; (repeat' split) <;> first | rfl | omega | (exfalso; omega))
  · refine j_if_ne X 16 (by decide) dX7_text_6 (fun c_4 => False.elim (by revert c_4; decide)) (fun c_4 => ?_)
    refine j_aload_n X 0 rfl rfl dX7_text_9 ?_
    refine j_ldc X (v := (-1000000001)) aw_108 dX7_text_10 ?_
    refine j_callVI X (nn := 1) (As := [.int (-1000000001)]) (st := []) (ci := 7) (by decide) (wE_7 _ rfl) rfl aw_117 aw_118 (c_X7_refuse l D y ad M (-1000000001) 1 (by decide) (by decide)) aw_116 aw_119 aw_2 (by decide +kernel) ⟨by decide, by decide⟩ rfl (Nat.le_of_ble_eq_true rfl) ⟨by decide, by decide⟩ dX7_text_12 ?_
    rintro r_ M1_ ⟨rfl, rfl⟩
    exact j_iret X hr hlocks dX7_text_15 (by unfold sp_text; (repeat' split) <;> first | rfl | omega | (exfalso; omega))
set_option maxRecDepth 100000 in
set_option maxHeartbeats 4000000 in
theorem c0_X7_seed (l : Launch) (D : va_G) (y : wY) (ad : Nat → Nat) (M : Mem) (hz : Z0 M) (v : Int32) : MI l D y ad yX7_seed (Cond.code yX7_seed cX7_seed 3 (some .int)) 6 M [.ref (ad 0), .int v] (fun r _ => sp_seed v = r) := by
  refine MI_of (by decide) (Nat.le_of_ble_eq_true rfl) ?_
  intro p e s m args below meth c X hr hlocks
  refine j_lv (lv1 := [(0, .ref (ad 0)), (1, .int v)]) [0, 1] rfl ?_
  refine j_aload_n X 0 rfl rfl dX7_seed_0 ?_
  refine j_get X (by decide) (wE_7 _ rfl) rfl awF7 0 (by decide) aw_16 rfl (v := .ref (ad 1)) rfl dX7_seed_1 ?_
  refine j_getN X (by decide) (wE_6 _ rfl) rfl awF6 7 (by decide) (List.mem_of_getElem? (i := 28) rfl) rfl (v := .int (M 1 7)) rfl dX7_seed_4 ?_
  refine j_eqi (v := 1) hz.2.2.2.2.2.2.2.2.1 ?_
  refine j_istore_n X [(2, .int 1), (0, .ref (ad 0)), (1, .int v)] rfl (by decide) rfl dX7_seed_7 ?_
  refine j_aload_n X 1 rfl rfl dX7_seed_8 ?_
  refine j_get X (by decide) (wE_7 _ rfl) rfl awF7 0 (by decide) aw_16 rfl (v := .ref (ad 1)) rfl dX7_seed_9 ?_
  refine j_iload_n X 2 rfl rfl dX7_seed_12 ?_
  refine j_putN X (up M 1 7 v) up_o (by decide) (wE_6 _ rfl) rfl awF6 7 (by decide) (wP_6_7 _ _ rfl) tyX6 tyX6_ok nmX6 rfl (ty := .int) (by decide +kernel) rfl rfl (Nat.le_of_ble_eq_true rfl) (List.mem_of_getElem? (i := 28) rfl) rfl dX7_seed_13 ?_
  refine j_iload_n X 0 rfl rfl dX7_seed_16 ?_
  exact j_iret X hr hlocks dX7_seed_17 (by unfold sp_seed; (repeat' split) <;> first | rfl | omega | (exfalso; omega))
set_option maxRecDepth 100000 in
set_option maxHeartbeats 4000000 in
theorem c0_X7_trace (l : Launch) (D : va_G) (y : wY) (ad : Nat → Nat) (M : Mem) (hz : Z0 M) (i : Int32) : MI l D y ad yX7_trace (Cond.code yX7_trace cX7_trace 2 (some .int)) 6 M [.ref (ad 0), .int i] (fun r _ => sp_trace i = r) := by
  refine MI_of (by decide) (Nat.le_of_ble_eq_true rfl) ?_
  intro p e s m args below meth c X hr hlocks
  refine j_lv (lv1 := [(0, .ref (ad 0)), (1, .int i)]) [0, 1] rfl ?_
  refine j_iload_n X 1 rfl rfl dX7_trace_0 ?_
  refine j_iconst X (v := 0) (by decide) dX7_trace_1 ?_
  refine j_aload_n X 0 rfl rfl dX7_trace_2 ?_
  refine j_get X (by decide) (wE_7 _ rfl) rfl awF7 4 (by decide) aw_29 rfl (v := .ref (ad 67)) rfl dX7_trace_3 ?_
  refine j_getN X (by decide) (wE_5 _ rfl) rfl awF5 1 (by decide) (List.mem_of_getElem? (i := 31) rfl) rfl (v := .int (M 67 1)) rfl dX7_trace_6 ?_
  refine j_eqi (v := 0) hz.2.2.2.2.2.2.2.2.2.1 ?_
  refine j_iconst X (v := 1) (by decide) dX7_trace_9 ?_
  refine j_isub X dX7_trace_10 ?_
  refine j_eqi (v := (-1)) (by decide) ?_
  refine j_callSI X (nn := 3) (As := [.int i, .int 0, .int (-1)]) (st := []) aw_110 (c_X7_isWithin l D y ad M i 0 (-1) 0 (-1) (by decide) (by decide)) aw_109 aw_111 aw_2 (by decide +kernel) ⟨by decide, by decide⟩ rfl (Nat.le_of_ble_eq_true rfl) ⟨by decide, by decide⟩ dX7_trace_11 ?_
  rintro r_ M1_ (⟨rfl, rfl, h_1⟩ | ⟨rfl, rfl, h_1⟩)
  · exfalso; omega
  · refine j_if_eq X 29 (by decide) dX7_trace_14 (fun c_2 => ?_) (fun c_2 => False.elim (by revert c_2; decide))
    refine j_aload_n X 0 rfl rfl dX7_trace_29 ?_
    refine j_ldc X (v := (-1000000002)) aw_560 dX7_trace_30 ?_
    refine j_callVI X (nn := 1) (As := [.int (-1000000002)]) (st := []) (ci := 7) (by decide) (wE_7 _ rfl) rfl aw_117 aw_118 (c_X7_refuse l D y ad M (-1000000002) 2 (by decide) (by decide)) aw_116 aw_119 aw_2 (by decide +kernel) ⟨by decide, by decide⟩ rfl (Nat.le_of_ble_eq_true rfl) ⟨by decide, by decide⟩ dX7_trace_32 ?_
    rintro r_ M1_ ⟨rfl, rfl⟩
    exact j_iret X hr hlocks dX7_trace_35 (by unfold sp_trace; (repeat' split) <;> first | rfl | omega | (exfalso; omega))
set_option maxRecDepth 100000 in
set_option maxHeartbeats 4000000 in
theorem c0_X7_restore (l : Launch) (D : va_G) (y : wY) (ad : Nat → Nat) (M : Mem) (hz : Z0 M) : MI l D y ad yX7_restore (Cond.code yX7_restore cX7_restore 1 (some .int)) 6 M [.ref (ad 0)] (fun r _ => sp_restore = r) := by
  refine MI_of (by decide) (Nat.le_of_ble_eq_true rfl) ?_
  intro p e s m args below meth c X hr hlocks
  refine j_lv (lv1 := [(0, .ref (ad 0))]) [0] rfl ?_
  refine j_aload_n X 0 rfl rfl dX7_restore_0 ?_
  refine j_get X (by decide) (wE_7 _ rfl) rfl awF7 7 (by decide) aw_867 rfl (v := .int (M 0 7)) rfl dX7_restore_1 ?_
  refine j_eqi (v := 0) hz.2.2.2.2.2.2.2.2.2.2.1 ?_
  refine j_if_ne X 14 (by decide) dX7_restore_4 (fun c_1 => False.elim (by revert c_1; decide)) (fun c_1 => ?_)
  refine j_aload_n X 0 rfl rfl dX7_restore_7 ?_
  refine j_ldc X (v := (-1000000002)) aw_560 dX7_restore_8 ?_
  refine j_callVI X (nn := 1) (As := [.int (-1000000002)]) (st := []) (ci := 7) (by decide) (wE_7 _ rfl) rfl aw_117 aw_118 (c_X7_refuse l D y ad M (-1000000002) 2 (by decide) (by decide)) aw_116 aw_119 aw_2 (by decide +kernel) ⟨by decide, by decide⟩ rfl (Nat.le_of_ble_eq_true rfl) ⟨by decide, by decide⟩ dX7_restore_10 ?_
  rintro r_ M1_ ⟨rfl, rfl⟩
  exact j_iret X hr hlocks dX7_restore_13 (by unfold sp_restore; (repeat' split) <;> first | rfl | omega | (exfalso; omega))
set_option maxRecDepth 100000 in
set_option maxHeartbeats 4000000 in
theorem c0_X7_tell (l : Launch) (D : va_G) (y : wY) (ad : Nat → Nat) (M : Mem) (hz : Z0 M) (v : Int32) : MI l D y ad yX7_tell (Cond.code yX7_tell cX7_tell 2 (some .int)) 6 M [.ref (ad 0), .int v] (fun r _ => sp_tell v = r) := by
  refine MI_of (by decide) (Nat.le_of_ble_eq_true rfl) ?_
  intro p e s m args below meth c X hr hlocks
  refine j_lv (lv1 := [(0, .ref (ad 0)), (1, .int v)]) [0, 1] rfl ?_
  refine j_aload_n X 0 rfl rfl dX7_tell_0 ?_
  refine j_get X (by decide) (wE_7 _ rfl) rfl awF7 0 (by decide) aw_16 rfl (v := .ref (ad 1)) rfl dX7_tell_1 ?_
  refine j_getN X (by decide) (wE_6 _ rfl) rfl awF6 6 (by decide) (List.mem_of_getElem? (i := 27) rfl) rfl (v := .int (M 1 6)) rfl dX7_tell_4 ?_
  refine j_eqi (v := 0) hz.2.2.2.2.2.2.2.1 ?_
  refine j_bipush X (v := 20) (by decide) dX7_tell_7 ?_
  refine j_icmp_lt X 19 (by decide) dX7_tell_9 (fun c_1 => ?_) (fun c_1 => False.elim (by revert c_1; decide))
  refine j_aload_n X 0 rfl rfl dX7_tell_19 ?_
  refine j_get X (by decide) (wE_7 _ rfl) rfl awF7 0 (by decide) aw_16 rfl (v := .ref (ad 1)) rfl dX7_tell_20 ?_
  refine j_getN X (by decide) (wE_6 _ rfl) rfl awF6 4 (by decide) (List.mem_of_getElem? (i := 25) rfl) rfl (v := .ref (ad 24)) rfl dX7_tell_23 ?_
  refine j_aload_n X 0 rfl rfl dX7_tell_26 ?_
  refine j_get X (by decide) (wE_7 _ rfl) rfl awF7 0 (by decide) aw_16 rfl (v := .ref (ad 1)) rfl dX7_tell_27 ?_
  refine j_getN X (by decide) (wE_6 _ rfl) rfl awF6 6 (by decide) (List.mem_of_getElem? (i := 27) rfl) rfl (v := .int (M 1 6)) rfl dX7_tell_30 ?_
  refine j_eqi (v := 0) hz.2.2.2.2.2.2.2.1 ?_
  refine j_iload_n X 1 rfl rfl dX7_tell_33 ?_
  refine j_iast X (by decide) rfl (by unfold vp_in; decide) dX7_tell_34 ?_
  refine j_eqM (M1 := (up M 24 0 v)) rfl ?_
  refine j_aload_n X 0 rfl rfl dX7_tell_35 ?_
  refine j_get X (by decide) (wE_7 _ rfl) rfl awF7 0 (by decide) aw_16 rfl (v := .ref (ad 1)) rfl dX7_tell_36 ?_
  refine j_dup X rfl dX7_tell_39 ?_
  refine j_getN X (by decide) (wE_6 _ rfl) rfl awF6 6 (by decide) (List.mem_of_getElem? (i := 27) rfl) rfl (v := .int ((up M 24 0 v) 1 6)) rfl dX7_tell_40 ?_
  refine j_eqi (v := 0) ((show _ = M 1 6 from by simp [up]).trans hz.2.2.2.2.2.2.2.1) ?_
  refine j_iconst X (v := 1) (by decide) dX7_tell_43 ?_
  refine j_iadd X dX7_tell_44 ?_
  refine j_eqi (v := 1) (by decide) ?_
  refine j_putN X (up (up M 24 0 v) 1 6 1) up_o (by decide) (wE_6 _ rfl) rfl awF6 6 (by decide) (wP_6_6 _ _ rfl) tyX6 tyX6_ok nmX6 rfl (ty := .int) (by decide +kernel) rfl rfl (Nat.le_of_ble_eq_true rfl) (List.mem_of_getElem? (i := 27) rfl) rfl dX7_tell_45 ?_
  refine j_aload_n X 0 rfl rfl dX7_tell_48 ?_
  refine j_get X (by decide) (wE_7 _ rfl) rfl awF7 0 (by decide) aw_16 rfl (v := .ref (ad 1)) rfl dX7_tell_49 ?_
  refine j_getN X (by decide) (wE_6 _ rfl) rfl awF6 6 (by decide) (List.mem_of_getElem? (i := 27) rfl) rfl (v := .int ((up (up M 24 0 v) 1 6 1) 1 6)) rfl dX7_tell_52 ?_
  refine j_eqi (v := 1) (by simp [up]) ?_
  exact j_iret X hr hlocks dX7_tell_55 (by unfold sp_tell; (repeat' split) <;> first | rfl | omega | (exfalso; omega))
set_option maxRecDepth 100000 in
set_option maxHeartbeats 4000000 in
theorem c0_X7_count (l : Launch) (D : va_G) (y : wY) (ad : Nat → Nat) (M : Mem) (hz : Z0 M) (what : Int32) : MI l D y ad yX7_count (Cond.code yX7_count cX7_count 3 (some .int)) 6 M [.ref (ad 0), .int what] (fun r _ => sp_count what = r) := by
  refine MI_of (by decide) (Nat.le_of_ble_eq_true rfl) ?_
  intro p e s m args below meth c X hr hlocks
  refine j_lv (lv1 := [(0, .ref (ad 0)), (1, .int what)]) [0, 1] rfl ?_
  refine j_aload_n X 0 rfl rfl dX7_count_0 ?_
  refine j_get X (by decide) (wE_7 _ rfl) rfl awF7 0 (by decide) aw_16 rfl (v := .ref (ad 1)) rfl dX7_count_1 ?_
  refine j_getN X (by decide) (wE_6 _ rfl) rfl awF6 2 (by decide) (List.mem_of_getElem? (i := 23) rfl) rfl (v := .ref (ad 12)) rfl dX7_count_4 ?_
  refine j_astore_n X [(2, .ref (ad 12)), (0, .ref (ad 0)), (1, .int what)] rfl (by decide) rfl dX7_count_7 ?_
  refine j_iload_n X 2 rfl rfl dX7_count_8 ?_
  by_cases w_1 : what = 0
  · refine j_tsw_in X 72 0 w_1 (by decide) (by decide) (off := 63) rfl (by decide) dX7_count_9 ?_
    have qw_1 := ti_eq (n := 0) (by decide) w_1
    refine j_aload_n X 0 rfl rfl dX7_count_72 ?_
    refine j_getN X (by decide) (wE_0 _ rfl) rfl awF0 3 (by decide) (List.mem_of_getElem? (i := 15) rfl) rfl (v := .int (M 12 3)) rfl dX7_count_73 ?_
    refine j_eqi (v := 0) hz.1 ?_
    exact j_iret X hr hlocks dX7_count_76 (by unfold sp_count; (repeat' split) <;> first | rfl | omega | (exfalso; omega))
  by_cases w_2 : what = 1
  · refine j_tsw_in X 77 1 w_2 (by decide) (by decide) (off := 68) rfl (by decide) dX7_count_9 ?_
    have qw_2 := ti_eq (n := 1) (by decide) w_2
    refine j_aload_n X 0 rfl rfl dX7_count_77 ?_
    refine j_getN X (by decide) (wE_0 _ rfl) rfl awF0 6 (by decide) (List.mem_of_getElem? (i := 18) rfl) rfl (v := .int (M 12 6)) rfl dX7_count_78 ?_
    refine j_eqi (v := 0) hz.2.2.2.1 ?_
    exact j_iret X hr hlocks dX7_count_81 (by unfold sp_count; (repeat' split) <;> first | rfl | omega | (exfalso; omega))
  by_cases w_3 : what = 2
  · refine j_tsw_in X 82 2 w_3 (by decide) (by decide) (off := 73) rfl (by decide) dX7_count_9 ?_
    have qw_3 := ti_eq (n := 2) (by decide) w_3
    refine j_aload_n X 0 rfl rfl dX7_count_82 ?_
    refine j_getN X (by decide) (wE_0 _ rfl) rfl awF0 4 (by decide) (List.mem_of_getElem? (i := 16) rfl) rfl (v := .int (M 12 4)) rfl dX7_count_83 ?_
    refine j_eqi (v := 0) hz.2.1 ?_
    exact j_iret X hr hlocks dX7_count_86 (by unfold sp_count; (repeat' split) <;> first | rfl | omega | (exfalso; omega))
  by_cases w_4 : what = 3
  · refine j_tsw_in X 87 3 w_4 (by decide) (by decide) (off := 78) rfl (by decide) dX7_count_9 ?_
    have qw_4 := ti_eq (n := 3) (by decide) w_4
    refine j_aload_n X 0 rfl rfl dX7_count_87 ?_
    refine j_getN X (by decide) (wE_0 _ rfl) rfl awF0 5 (by decide) (List.mem_of_getElem? (i := 17) rfl) rfl (v := .int (M 12 5)) rfl dX7_count_88 ?_
    refine j_eqi (v := 1) hz.2.2.1 ?_
    exact j_iret X hr hlocks dX7_count_91 (by unfold sp_count; (repeat' split) <;> first | rfl | omega | (exfalso; omega))
  by_cases w_5 : what = 4
  · refine j_tsw_in X 92 4 w_5 (by decide) (by decide) (off := 83) rfl (by decide) dX7_count_9 ?_
    have qw_5 := ti_eq (n := 4) (by decide) w_5
    refine j_aload_n X 0 rfl rfl dX7_count_92 ?_
    refine j_getN X (by decide) (wE_0 _ rfl) rfl awF0 7 (by decide) (List.mem_of_getElem? (i := 19) rfl) rfl (v := .int (M 12 7)) rfl dX7_count_93 ?_
    refine j_eqi (v := 0) hz.2.2.2.2.1 ?_
    exact j_iret X hr hlocks dX7_count_96 (by unfold sp_count; (repeat' split) <;> first | rfl | omega | (exfalso; omega))
  by_cases w_6 : what = 5
  · refine j_tsw_in X 97 5 w_6 (by decide) (by decide) (off := 88) rfl (by decide) dX7_count_9 ?_
    have qw_6 := ti_eq (n := 5) (by decide) w_6
    refine j_aload_n X 0 rfl rfl dX7_count_97 ?_
    refine j_getN X (by decide) (wE_0 _ rfl) rfl awF0 8 (by decide) (List.mem_of_getElem? (i := 20) rfl) rfl (v := .int (M 12 8)) rfl dX7_count_98 ?_
    refine j_eqi (v := 0) hz.2.2.2.2.2.1 ?_
    exact j_iret X hr hlocks dX7_count_101 (by unfold sp_count; (repeat' split) <;> first | rfl | omega | (exfalso; omega))
  by_cases w_7 : what = 6
  · refine j_tsw_in X 102 6 w_7 (by decide) (by decide) (off := 93) rfl (by decide) dX7_count_9 ?_
    have qw_7 := ti_eq (n := 6) (by decide) w_7
    refine j_aload_n X 0 rfl rfl dX7_count_102 ?_
    refine j_callVNI X (nn := 0) (As := []) (st := []) (ci := 0) (by decide) (wE_0 _ rfl) rfl aw_466 aw_467 (c_setEnded0_12 l D y ad M hz.1) (List.mem_of_getElem? (i := 35) rfl) aw_468 aw_20 (by decide +kernel) ⟨by decide, by decide⟩ rfl (Nat.le_of_ble_eq_true rfl) ⟨by decide, by decide⟩ dX7_count_103 ?_
    rintro r_ M1_ ⟨rfl, rfl⟩
    exact j_iret X hr hlocks dX7_count_106 (by unfold sp_count; (repeat' split) <;> first | rfl | omega | (exfalso; omega))
  by_cases w_8 : what = 7
  · refine j_tsw_in X 107 7 w_8 (by decide) (by decide) (off := 98) rfl (by decide) dX7_count_9 ?_
    have qw_8 := ti_eq (n := 7) (by decide) w_8
    refine j_aload_n X 0 rfl rfl dX7_count_107 ?_
    refine j_callVNI X (nn := 0) (As := []) (st := []) (ci := 0) (by decide) (wE_0 _ rfl) rfl aw_908 aw_909 (c_edgesTogether0_12 l D y ad M hz.1) (List.mem_of_getElem? (i := 51) rfl) aw_910 aw_20 (by decide +kernel) ⟨by decide, by decide⟩ rfl (Nat.le_of_ble_eq_true rfl) ⟨by decide, by decide⟩ dX7_count_108 ?_
    rintro r_ M1_ ⟨rfl, rfl⟩
    exact j_iret X hr hlocks dX7_count_111 (by unfold sp_count; (repeat' split) <;> first | rfl | omega | (exfalso; omega))
  by_cases w_9 : what = 8
  · refine j_tsw_in X 112 8 w_9 (by decide) (by decide) (off := 103) rfl (by decide) dX7_count_9 ?_
    have qw_9 := ti_eq (n := 8) (by decide) w_9
    refine j_aload_n X 1 rfl rfl dX7_count_112 ?_
    refine j_get X (by decide) (wE_7 _ rfl) rfl awF7 0 (by decide) aw_16 rfl (v := .ref (ad 1)) rfl dX7_count_113 ?_
    refine j_getN X (by decide) (wE_6 _ rfl) rfl awF6 5 (by decide) (List.mem_of_getElem? (i := 26) rfl) rfl (v := .int (M 1 5)) rfl dX7_count_116 ?_
    refine j_eqi (v := 0) hz.2.2.2.2.2.2.1 ?_
    exact j_iret X hr hlocks dX7_count_119 (by unfold sp_count; (repeat' split) <;> first | rfl | omega | (exfalso; omega))
  by_cases w_10 : what = 9
  · refine j_tsw_in X 120 9 w_10 (by decide) (by decide) (off := 111) rfl (by decide) dX7_count_9 ?_
    have qw_10 := ti_eq (n := 9) (by decide) w_10
    refine j_aload_n X 1 rfl rfl dX7_count_120 ?_
    refine j_get X (by decide) (wE_7 _ rfl) rfl awF7 0 (by decide) aw_16 rfl (v := .ref (ad 1)) rfl dX7_count_121 ?_
    refine j_getN X (by decide) (wE_6 _ rfl) rfl awF6 6 (by decide) (List.mem_of_getElem? (i := 27) rfl) rfl (v := .int (M 1 6)) rfl dX7_count_124 ?_
    refine j_eqi (v := 0) hz.2.2.2.2.2.2.2.1 ?_
    exact j_iret X hr hlocks dX7_count_127 (by unfold sp_count; (repeat' split) <;> first | rfl | omega | (exfalso; omega))
  by_cases w_11 : what = 10
  · refine j_tsw_in X 128 10 w_11 (by decide) (by decide) (off := 119) rfl (by decide) dX7_count_9 ?_
    have qw_11 := ti_eq (n := 10) (by decide) w_11
    refine j_aload_n X 1 rfl rfl dX7_count_128 ?_
    refine j_get X (by decide) (wE_7 _ rfl) rfl awF7 4 (by decide) aw_29 rfl (v := .ref (ad 67)) rfl dX7_count_129 ?_
    refine j_getN X (by decide) (wE_5 _ rfl) rfl awF5 1 (by decide) (List.mem_of_getElem? (i := 31) rfl) rfl (v := .int (M 67 1)) rfl dX7_count_132 ?_
    refine j_eqi (v := 0) hz.2.2.2.2.2.2.2.2.2.1 ?_
    exact j_iret X hr hlocks dX7_count_135 (by unfold sp_count; (repeat' split) <;> first | rfl | omega | (exfalso; omega))
  by_cases w_12 : what = 11
  · refine j_tsw_in X 136 11 w_12 (by decide) (by decide) (off := 127) rfl (by decide) dX7_count_9 ?_
    have qw_12 := ti_eq (n := 11) (by decide) w_12
    refine j_aload_n X 1 rfl rfl dX7_count_136 ?_
    refine j_get X (by decide) (wE_7 _ rfl) rfl awF7 0 (by decide) aw_16 rfl (v := .ref (ad 1)) rfl dX7_count_137 ?_
    refine j_getN X (by decide) (wE_6 _ rfl) rfl awF6 7 (by decide) (List.mem_of_getElem? (i := 28) rfl) rfl (v := .int (M 1 7)) rfl dX7_count_140 ?_
    refine j_eqi (v := 1) hz.2.2.2.2.2.2.2.2.1 ?_
    exact j_iret X hr hlocks dX7_count_143 (by unfold sp_count; (repeat' split) <;> first | rfl | omega | (exfalso; omega))
  refine j_tsw_out X 144 (tsw_out 11 (by decide) (fun j hj => by
    have hj : j = 0 ∨ j = 1 ∨ j = 2 ∨ j = 3 ∨ j = 4 ∨ j = 5 ∨ j = 6 ∨ j = 7 ∨ j = 8 ∨ j = 9 ∨ j = 10 ∨ j = 11 := by omega
    rcases hj with rfl | rfl | rfl | rfl | rfl | rfl | rfl | rfl | rfl | rfl | rfl | rfl
    · exact w_1
    · exact w_2
    · exact w_3
    · exact w_4
    · exact w_5
    · exact w_6
    · exact w_7
    · exact w_8
    · exact w_9
    · exact w_10
    · exact w_11
    · exact w_12
    )) (by decide) dX7_count_9 ?_
  have qw_1 := ti_ne (n := 0) (by decide) w_1
  have qw_2 := ti_ne (n := 1) (by decide) w_2
  have qw_3 := ti_ne (n := 2) (by decide) w_3
  have qw_4 := ti_ne (n := 3) (by decide) w_4
  have qw_5 := ti_ne (n := 4) (by decide) w_5
  have qw_6 := ti_ne (n := 5) (by decide) w_6
  have qw_7 := ti_ne (n := 6) (by decide) w_7
  have qw_8 := ti_ne (n := 7) (by decide) w_8
  have qw_9 := ti_ne (n := 8) (by decide) w_9
  have qw_10 := ti_ne (n := 9) (by decide) w_10
  have qw_11 := ti_ne (n := 10) (by decide) w_11
  have qw_12 := ti_ne (n := 11) (by decide) w_12
  refine j_aload_n X 1 rfl rfl dX7_count_144 ?_
  refine j_ldc X (v := (-1000000001)) aw_108 dX7_count_145 ?_
  refine j_callVI X (nn := 1) (As := [.int (-1000000001)]) (st := []) (ci := 7) (by decide) (wE_7 _ rfl) rfl aw_117 aw_118 (c_X7_refuse l D y ad M (-1000000001) 1 (by decide) (by decide)) aw_116 aw_119 aw_2 (by decide +kernel) ⟨by decide, by decide⟩ rfl (Nat.le_of_ble_eq_true rfl) ⟨by decide, by decide⟩ dX7_count_147 ?_
  rintro r_ M1_ ⟨rfl, rfl⟩
  exact j_iret X hr hlocks dX7_count_150 (by unfold sp_count; (repeat' split) <;> first | rfl | omega | (exfalso; omega))
set_option maxRecDepth 100000 in
set_option maxHeartbeats 4000000 in
theorem c0_X7_told (l : Launch) (D : va_G) (y : wY) (ad : Nat → Nat) (M : Mem) (hz : Z0 M) (i : Int32) : MI l D y ad yX7_told (Cond.code yX7_told cX7_told 2 (some .int)) 6 M [.ref (ad 0), .int i] (fun r _ => sp_told i = r) := by
  refine MI_of (by decide) (Nat.le_of_ble_eq_true rfl) ?_
  intro p e s m args below meth c X hr hlocks
  refine j_lv (lv1 := [(0, .ref (ad 0)), (1, .int i)]) [0, 1] rfl ?_
  refine j_iload_n X 1 rfl rfl dX7_told_0 ?_
  refine j_iconst X (v := 1) (by decide) dX7_told_1 ?_
  refine j_iconst X (v := 5) (by decide) dX7_told_2 ?_
  refine j_callSI X (nn := 3) (As := [.int i, .int 1, .int 5]) (st := []) aw_110 (c_X7_isWithin l D y ad M i 1 5 1 5 (by decide) (by decide)) aw_109 aw_111 aw_2 (by decide +kernel) ⟨by decide, by decide⟩ rfl (Nat.le_of_ble_eq_true rfl) ⟨by decide, by decide⟩ dX7_told_3 ?_
  rintro r_ M1_ (⟨rfl, rfl, h_1⟩ | ⟨rfl, rfl, h_1⟩)
  · refine j_if_eq X 18 (by decide) dX7_told_6 (fun c_2 => False.elim (by revert c_2; decide)) (fun c_2 => ?_)
    refine j_aload_n X 0 rfl rfl dX7_told_9 ?_
    refine j_get X (by decide) (wE_7 _ rfl) rfl awF7 6 (by decide) aw_33 rfl (v := .ref (ad 78)) rfl dX7_told_10 ?_
    refine j_iload_n X 1 rfl rfl dX7_told_13 ?_
    rcases is_1_5 h_1 with rfl | rfl | rfl | rfl | rfl
    · refine j_iald X (by decide) rfl (by unfold vp_in; decide) dX7_told_14 ?_
      refine j_eqi (v := 0) hz.2.2.2.2.2.2.2.2.2.2.2.2.2.2.2.2.2.2.2.1 ?_
      refine j_goto X 24 (by decide) dX7_told_15 ?_
      exact j_iret X hr hlocks dX7_told_24 (by unfold sp_told; (repeat' split) <;> first | rfl | omega | (exfalso; omega))
    · refine j_iald X (by decide) rfl (by unfold vp_in; decide) dX7_told_14 ?_
      refine j_eqi (v := 0) hz.2.2.2.2.2.2.2.2.2.2.2.2.2.2.2.2.2.2.2.2.1 ?_
      refine j_goto X 24 (by decide) dX7_told_15 ?_
      exact j_iret X hr hlocks dX7_told_24 (by unfold sp_told; (repeat' split) <;> first | rfl | omega | (exfalso; omega))
    · refine j_iald X (by decide) rfl (by unfold vp_in; decide) dX7_told_14 ?_
      refine j_eqi (v := 0) hz.2.2.2.2.2.2.2.2.2.2.2.2.2.2.2.2.2.2.2.2.2.1 ?_
      refine j_goto X 24 (by decide) dX7_told_15 ?_
      exact j_iret X hr hlocks dX7_told_24 (by unfold sp_told; (repeat' split) <;> first | rfl | omega | (exfalso; omega))
    · refine j_iald X (by decide) rfl (by unfold vp_in; decide) dX7_told_14 ?_
      refine j_eqi (v := 0) hz.2.2.2.2.2.2.2.2.2.2.2.2.2.2.2.2.2.2.2.2.2.2.1 ?_
      refine j_goto X 24 (by decide) dX7_told_15 ?_
      exact j_iret X hr hlocks dX7_told_24 (by unfold sp_told; (repeat' split) <;> first | rfl | omega | (exfalso; omega))
    · refine j_iald X (by decide) rfl (by unfold vp_in; decide) dX7_told_14 ?_
      refine j_eqi (v := 0) hz.2.2.2.2.2.2.2.2.2.2.2.2.2.2.2.2.2.2.2.2.2.2.2 ?_
      refine j_goto X 24 (by decide) dX7_told_15 ?_
      exact j_iret X hr hlocks dX7_told_24 (by unfold sp_told; (repeat' split) <;> first | rfl | omega | (exfalso; omega))
  · refine j_if_eq X 18 (by decide) dX7_told_6 (fun c_3 => ?_) (fun c_3 => False.elim (by revert c_3; decide))
    refine j_aload_n X 0 rfl rfl dX7_told_18 ?_
    refine j_ldc X (v := (-1000000001)) aw_108 dX7_told_19 ?_
    refine j_callVI X (nn := 1) (As := [.int (-1000000001)]) (st := []) (ci := 7) (by decide) (wE_7 _ rfl) rfl aw_117 aw_118 (c_X7_refuse l D y ad M (-1000000001) 1 (by decide) (by decide)) aw_116 aw_119 aw_2 (by decide +kernel) ⟨by decide, by decide⟩ rfl (Nat.le_of_ble_eq_true rfl) ⟨by decide, by decide⟩ dX7_told_21 ?_
    rintro r_ M1_ ⟨rfl, rfl⟩
    exact j_iret X hr hlocks dX7_told_24 (by unfold sp_told; (repeat' split) <;> first | rfl | omega | (exfalso; omega))
set_option maxRecDepth 100000 in
set_option maxHeartbeats 4000000 in
theorem c_copyText0_26 (l : Launch) (D : va_G) (y : wY) (ad : Nat → Nat) (M : Mem) (hs : M 2 5 = 0) (hu : M 2 4 = 0) : MV l D y ad yX4_copyFrom (Cond.code yX4_copyFrom cX4_copyFrom 2 none) 1 M [.ref (ad 26), .ref (ad 2)] (fun M' => up (up M 26 4 0) 26 5 0 = M') := by
  refine MV_of (by decide) (Nat.le_of_ble_eq_true rfl) ?_
  intro p e s m args below meth c X hr hlocks
  refine j_lv (lv1 := [(0, .ref (ad 26)), (1, .ref (ad 2))]) [0, 1] rfl ?_
  refine j_aload_n X 1 rfl rfl dX4_copyFrom_0 ?_
  refine j_get X (by decide) (wE_4 _ rfl) rfl awF4 0 (by decide) aw_52 rfl (v := .ref (ad 3)) rfl dX4_copyFrom_1 ?_
  refine j_iconst X (v := 0) (by decide) dX4_copyFrom_4 ?_
  refine j_aload_n X 0 rfl rfl dX4_copyFrom_5 ?_
  refine j_get X (by decide) (wE_4 _ rfl) rfl awF4 0 (by decide) aw_52 rfl (v := .ref (ad 27)) rfl dX4_copyFrom_6 ?_
  refine j_iconst X (v := 0) (by decide) dX4_copyFrom_9 ?_
  refine j_aload_n X 1 rfl rfl dX4_copyFrom_10 ?_
  refine j_get X (by decide) (wE_4 _ rfl) rfl awF4 5 (by decide) aw_73 rfl (v := .int (M 2 5)) rfl dX4_copyFrom_11 ?_
  refine j_eqi (v := 0) hs ?_
  refine j_copy X (i := 3) (j := 27) aw_372 aw_320 aw_321 aw_322 (by decide) (by decide) rfl rfl (by decide) (by decide) (by decide) (by decide) (by decide) (by decide) (by decide +kernel) dX4_copyFrom_14 ?_
  refine j_eqM (M1 := M) copy0 ?_
  refine j_aload_n X 1 rfl rfl dX4_copyFrom_17 ?_
  refine j_get X (by decide) (wE_4 _ rfl) rfl awF4 1 (by decide) aw_53 rfl (v := .ref (ad 4)) rfl dX4_copyFrom_18 ?_
  refine j_iconst X (v := 0) (by decide) dX4_copyFrom_21 ?_
  refine j_aload_n X 0 rfl rfl dX4_copyFrom_22 ?_
  refine j_get X (by decide) (wE_4 _ rfl) rfl awF4 1 (by decide) aw_53 rfl (v := .ref (ad 28)) rfl dX4_copyFrom_23 ?_
  refine j_iconst X (v := 0) (by decide) dX4_copyFrom_26 ?_
  refine j_aload_n X 1 rfl rfl dX4_copyFrom_27 ?_
  refine j_get X (by decide) (wE_4 _ rfl) rfl awF4 5 (by decide) aw_73 rfl (v := .int (M 2 5)) rfl dX4_copyFrom_28 ?_
  refine j_eqi (v := 0) hs ?_
  refine j_copy X (i := 4) (j := 28) aw_372 aw_320 aw_321 aw_322 (by decide) (by decide) rfl rfl (by decide) (by decide) (by decide) (by decide) (by decide) (by decide) (by decide +kernel) dX4_copyFrom_31 ?_
  refine j_eqM (M1 := M) copy0 ?_
  refine j_aload_n X 1 rfl rfl dX4_copyFrom_34 ?_
  refine j_get X (by decide) (wE_4 _ rfl) rfl awF4 2 (by decide) aw_54 rfl (v := .ref (ad 5)) rfl dX4_copyFrom_35 ?_
  refine j_iconst X (v := 0) (by decide) dX4_copyFrom_38 ?_
  refine j_aload_n X 0 rfl rfl dX4_copyFrom_39 ?_
  refine j_get X (by decide) (wE_4 _ rfl) rfl awF4 2 (by decide) aw_54 rfl (v := .ref (ad 29)) rfl dX4_copyFrom_40 ?_
  refine j_iconst X (v := 0) (by decide) dX4_copyFrom_43 ?_
  refine j_aload_n X 1 rfl rfl dX4_copyFrom_44 ?_
  refine j_get X (by decide) (wE_4 _ rfl) rfl awF4 5 (by decide) aw_73 rfl (v := .int (M 2 5)) rfl dX4_copyFrom_45 ?_
  refine j_eqi (v := 0) hs ?_
  refine j_copy X (i := 5) (j := 29) aw_372 aw_320 aw_321 aw_322 (by decide) (by decide) rfl rfl (by decide) (by decide) (by decide) (by decide) (by decide) (by decide) (by decide +kernel) dX4_copyFrom_48 ?_
  refine j_eqM (M1 := M) copy0 ?_
  refine j_aload_n X 0 rfl rfl dX4_copyFrom_51 ?_
  refine j_aload_n X 1 rfl rfl dX4_copyFrom_52 ?_
  refine j_get X (by decide) (wE_4 _ rfl) rfl awF4 4 (by decide) aw_72 rfl (v := .int (M 2 4)) rfl dX4_copyFrom_53 ?_
  refine j_eqi (v := 0) hu ?_
  refine j_put X (up M 26 4 0) up_o (by decide) (wE_4 _ rfl) rfl awF4 4 (by decide) (wP_4_4 _ _ rfl) tyX4 tyX4_ok nmX4 rfl (ty := .int) (by decide +kernel) rfl rfl (Nat.le_of_ble_eq_true rfl) aw_72 rfl dX4_copyFrom_56 ?_
  refine j_aload_n X 0 rfl rfl dX4_copyFrom_59 ?_
  refine j_aload_n X 1 rfl rfl dX4_copyFrom_60 ?_
  refine j_get X (by decide) (wE_4 _ rfl) rfl awF4 5 (by decide) aw_73 rfl (v := .int ((up M 26 4 0) 2 5)) rfl dX4_copyFrom_61 ?_
  refine j_eqi (v := 0) ((show _ = M 2 5 from by simp [up]).trans hs) ?_
  refine j_put X (up (up M 26 4 0) 26 5 0) up_o (by decide) (wE_4 _ rfl) rfl awF4 5 (by decide) (wP_4_5 _ _ rfl) tyX4 tyX4_ok nmX4 rfl (ty := .int) (by decide +kernel) rfl rfl (Nat.le_of_ble_eq_true rfl) aw_73 rfl dX4_copyFrom_64 ?_
  exact j_vret X hr hlocks dX4_copyFrom_67 rfl
set_option maxRecDepth 100000 in
set_option maxHeartbeats 4000000 in
theorem c_copyText0_31 (l : Launch) (D : va_G) (y : wY) (ad : Nat → Nat) (M : Mem) (hs : M 7 5 = 0) (hu : M 7 4 = 1) : MV l D y ad yX4_copyFrom (Cond.code yX4_copyFrom cX4_copyFrom 2 none) 1 M [.ref (ad 31), .ref (ad 7)] (fun M' => up (up M 31 4 1) 31 5 0 = M') := by
  refine MV_of (by decide) (Nat.le_of_ble_eq_true rfl) ?_
  intro p e s m args below meth c X hr hlocks
  refine j_lv (lv1 := [(0, .ref (ad 31)), (1, .ref (ad 7))]) [0, 1] rfl ?_
  refine j_aload_n X 1 rfl rfl dX4_copyFrom_0 ?_
  refine j_get X (by decide) (wE_4 _ rfl) rfl awF4 0 (by decide) aw_52 rfl (v := .ref (ad 8)) rfl dX4_copyFrom_1 ?_
  refine j_iconst X (v := 0) (by decide) dX4_copyFrom_4 ?_
  refine j_aload_n X 0 rfl rfl dX4_copyFrom_5 ?_
  refine j_get X (by decide) (wE_4 _ rfl) rfl awF4 0 (by decide) aw_52 rfl (v := .ref (ad 32)) rfl dX4_copyFrom_6 ?_
  refine j_iconst X (v := 0) (by decide) dX4_copyFrom_9 ?_
  refine j_aload_n X 1 rfl rfl dX4_copyFrom_10 ?_
  refine j_get X (by decide) (wE_4 _ rfl) rfl awF4 5 (by decide) aw_73 rfl (v := .int (M 7 5)) rfl dX4_copyFrom_11 ?_
  refine j_eqi (v := 0) hs ?_
  refine j_copy X (i := 8) (j := 32) aw_372 aw_320 aw_321 aw_322 (by decide) (by decide) rfl rfl (by decide) (by decide) (by decide) (by decide) (by decide) (by decide) (by decide +kernel) dX4_copyFrom_14 ?_
  refine j_eqM (M1 := M) copy0 ?_
  refine j_aload_n X 1 rfl rfl dX4_copyFrom_17 ?_
  refine j_get X (by decide) (wE_4 _ rfl) rfl awF4 1 (by decide) aw_53 rfl (v := .ref (ad 9)) rfl dX4_copyFrom_18 ?_
  refine j_iconst X (v := 0) (by decide) dX4_copyFrom_21 ?_
  refine j_aload_n X 0 rfl rfl dX4_copyFrom_22 ?_
  refine j_get X (by decide) (wE_4 _ rfl) rfl awF4 1 (by decide) aw_53 rfl (v := .ref (ad 33)) rfl dX4_copyFrom_23 ?_
  refine j_iconst X (v := 0) (by decide) dX4_copyFrom_26 ?_
  refine j_aload_n X 1 rfl rfl dX4_copyFrom_27 ?_
  refine j_get X (by decide) (wE_4 _ rfl) rfl awF4 5 (by decide) aw_73 rfl (v := .int (M 7 5)) rfl dX4_copyFrom_28 ?_
  refine j_eqi (v := 0) hs ?_
  refine j_copy X (i := 9) (j := 33) aw_372 aw_320 aw_321 aw_322 (by decide) (by decide) rfl rfl (by decide) (by decide) (by decide) (by decide) (by decide) (by decide) (by decide +kernel) dX4_copyFrom_31 ?_
  refine j_eqM (M1 := M) copy0 ?_
  refine j_aload_n X 1 rfl rfl dX4_copyFrom_34 ?_
  refine j_get X (by decide) (wE_4 _ rfl) rfl awF4 2 (by decide) aw_54 rfl (v := .ref (ad 10)) rfl dX4_copyFrom_35 ?_
  refine j_iconst X (v := 0) (by decide) dX4_copyFrom_38 ?_
  refine j_aload_n X 0 rfl rfl dX4_copyFrom_39 ?_
  refine j_get X (by decide) (wE_4 _ rfl) rfl awF4 2 (by decide) aw_54 rfl (v := .ref (ad 34)) rfl dX4_copyFrom_40 ?_
  refine j_iconst X (v := 0) (by decide) dX4_copyFrom_43 ?_
  refine j_aload_n X 1 rfl rfl dX4_copyFrom_44 ?_
  refine j_get X (by decide) (wE_4 _ rfl) rfl awF4 5 (by decide) aw_73 rfl (v := .int (M 7 5)) rfl dX4_copyFrom_45 ?_
  refine j_eqi (v := 0) hs ?_
  refine j_copy X (i := 10) (j := 34) aw_372 aw_320 aw_321 aw_322 (by decide) (by decide) rfl rfl (by decide) (by decide) (by decide) (by decide) (by decide) (by decide) (by decide +kernel) dX4_copyFrom_48 ?_
  refine j_eqM (M1 := M) copy0 ?_
  refine j_aload_n X 0 rfl rfl dX4_copyFrom_51 ?_
  refine j_aload_n X 1 rfl rfl dX4_copyFrom_52 ?_
  refine j_get X (by decide) (wE_4 _ rfl) rfl awF4 4 (by decide) aw_72 rfl (v := .int (M 7 4)) rfl dX4_copyFrom_53 ?_
  refine j_eqi (v := 1) hu ?_
  refine j_put X (up M 31 4 1) up_o (by decide) (wE_4 _ rfl) rfl awF4 4 (by decide) (wP_4_4 _ _ rfl) tyX4 tyX4_ok nmX4 rfl (ty := .int) (by decide +kernel) rfl rfl (Nat.le_of_ble_eq_true rfl) aw_72 rfl dX4_copyFrom_56 ?_
  refine j_aload_n X 0 rfl rfl dX4_copyFrom_59 ?_
  refine j_aload_n X 1 rfl rfl dX4_copyFrom_60 ?_
  refine j_get X (by decide) (wE_4 _ rfl) rfl awF4 5 (by decide) aw_73 rfl (v := .int ((up M 31 4 1) 7 5)) rfl dX4_copyFrom_61 ?_
  refine j_eqi (v := 0) ((show _ = M 7 5 from by simp [up]).trans hs) ?_
  refine j_put X (up (up M 31 4 1) 31 5 0) up_o (by decide) (wE_4 _ rfl) rfl awF4 5 (by decide) (wP_4_5 _ _ rfl) tyX4 tyX4_ok nmX4 rfl (ty := .int) (by decide +kernel) rfl rfl (Nat.le_of_ble_eq_true rfl) aw_73 rfl dX4_copyFrom_64 ?_
  exact j_vret X hr hlocks dX4_copyFrom_67 rfl
set_option maxRecDepth 100000 in
set_option maxHeartbeats 4000000 in
theorem c_copyWhole0 (l : Launch) (D : va_G) (y : wY) (ad : Nat → Nat) (M : Mem) (hz : Z0 M) : MV l D y ad yX6_copyFrom (Cond.code yX6_copyFrom cX6_copyFrom 2 none) 2 M [.ref (ad 25), .ref (ad 1)] (fun M' => sm (fun b _ => decide (25 ≤ b) && decide (b ≤ 48)) M M') := by
  refine MV_of (by decide) (Nat.le_of_ble_eq_true rfl) ?_
  intro p e s m args below meth c X hr hlocks
  refine j_lv (lv1 := [(0, .ref (ad 25)), (1, .ref (ad 1))]) [0, 1] rfl ?_
  refine j_aload_n X 0 rfl rfl dX6_copyFrom_0 ?_
  refine j_get X (by decide) (wE_6 _ rfl) rfl awF6 0 (by decide) aw_42 rfl (v := .ref (ad 26)) rfl dX6_copyFrom_1 ?_
  refine j_aload_n X 1 rfl rfl dX6_copyFrom_4 ?_
  refine j_get X (by decide) (wE_6 _ rfl) rfl awF6 0 (by decide) aw_42 rfl (v := .ref (ad 2)) rfl dX6_copyFrom_5 ?_
  refine j_callVNV X (nn := 1) (As := [.ref (ad 2)]) (st := []) (ci := 4) (by decide) (wE_4 _ rfl) rfl aw_369 aw_370 (c_copyText0_26 l D y ad M hz.2.2.2.2.2.2.2.2.2.2.2.2.2.2.2.2.1 hz.2.2.2.2.2.2.2.2.2.2.2.2.2.2.2.1) (List.mem_of_getElem? (i := 49) rfl) aw_371 aw_41 (by decide +kernel) ⟨by decide, by decide⟩ rfl (Nat.le_of_ble_eq_true rfl) ⟨by decide, by decide⟩ dX6_copyFrom_8 ?_
  rintro M1_ rfl
  refine j_aload_n X 0 rfl rfl dX6_copyFrom_11 ?_
  refine j_get X (by decide) (wE_6 _ rfl) rfl awF6 1 (by decide) aw_43 rfl (v := .ref (ad 31)) rfl dX6_copyFrom_12 ?_
  refine j_aload_n X 1 rfl rfl dX6_copyFrom_15 ?_
  refine j_get X (by decide) (wE_6 _ rfl) rfl awF6 1 (by decide) aw_43 rfl (v := .ref (ad 7)) rfl dX6_copyFrom_16 ?_
  refine j_callVNV X (nn := 1) (As := [.ref (ad 7)]) (st := []) (ci := 4) (by decide) (wE_4 _ rfl) rfl aw_369 aw_370 (c_copyText0_31 l D y ad (up (up M 26 4 0) 26 5 0) ((show _ = M 7 5 from by simp [up]).trans hz.2.2.2.2.2.2.2.2.2.2.2.2.2.2.2.2.2.2.1) ((show _ = M 7 4 from by simp [up]).trans hz.2.2.2.2.2.2.2.2.2.2.2.2.2.2.2.2.2.1)) (List.mem_of_getElem? (i := 49) rfl) aw_371 aw_41 (by decide +kernel) ⟨by decide, by decide⟩ rfl (Nat.le_of_ble_eq_true rfl) ⟨by decide, by decide⟩ dX6_copyFrom_19 ?_
  rintro M1_ rfl
  refine j_aload_n X 0 rfl rfl dX6_copyFrom_22 ?_
  refine j_get X (by decide) (wE_6 _ rfl) rfl awF6 2 (by decide) aw_45 rfl (v := .ref (ad 36)) rfl dX6_copyFrom_23 ?_
  refine j_aload_n X 1 rfl rfl dX6_copyFrom_26 ?_
  refine j_get X (by decide) (wE_6 _ rfl) rfl awF6 2 (by decide) aw_45 rfl (v := .ref (ad 12)) rfl dX6_copyFrom_27 ?_
  refine j_callVNV X (nn := 1) (As := [.ref (ad 12)]) (st := []) (ci := 0) (by decide) (wE_0 _ rfl) rfl aw_537 aw_538 (c_copyFrom0_36 l D y ad (up (up (up (up M 26 4 0) 26 5 0) 31 4 1) 31 5 0) ((show _ = M 12 3 from by simp [up]).trans hz.1)) (List.mem_of_getElem? (i := 50) rfl) aw_539 aw_20 (by decide +kernel) ⟨by decide, by decide⟩ rfl (Nat.le_of_ble_eq_true rfl) ⟨by decide, by decide⟩ dX6_copyFrom_30 ?_
  rintro M_2 ⟨s_1, s_1_3, s_1_7, s_1_8⟩
  refine j_aload_n X 1 rfl rfl dX6_copyFrom_33 ?_
  refine j_get X (by decide) (wE_6 _ rfl) rfl awF6 3 (by decide) aw_46 rfl (v := .ref (ad 23)) rfl dX6_copyFrom_34 ?_
  refine j_iconst X (v := 0) (by decide) dX6_copyFrom_37 ?_
  refine j_aload_n X 0 rfl rfl dX6_copyFrom_38 ?_
  refine j_get X (by decide) (wE_6 _ rfl) rfl awF6 3 (by decide) aw_46 rfl (v := .ref (ad 47)) rfl dX6_copyFrom_39 ?_
  refine j_iconst X (v := 0) (by decide) dX6_copyFrom_42 ?_
  refine j_aload_n X 1 rfl rfl dX6_copyFrom_43 ?_
  refine j_get X (by decide) (wE_6 _ rfl) rfl awF6 5 (by decide) aw_871 rfl (v := .int (M_2 1 5)) rfl dX6_copyFrom_44 ?_
  refine j_eqi (v := 0) ((s_1 1 5 rfl).trans ((show _ = M 1 5 from by simp [up]).trans hz.2.2.2.2.2.2.1)) ?_
  refine j_copy X (i := 23) (j := 47) aw_872 aw_320 aw_321 aw_322 (by decide) (by decide) rfl rfl (by decide) (by decide) (by decide) (by decide) (by decide) (by decide) (by decide +kernel) dX6_copyFrom_47 ?_
  refine j_eqM (M1 := M_2) copy0 ?_
  refine j_aload_n X 1 rfl rfl dX6_copyFrom_50 ?_
  refine j_get X (by decide) (wE_6 _ rfl) rfl awF6 4 (by decide) aw_47 rfl (v := .ref (ad 24)) rfl dX6_copyFrom_51 ?_
  refine j_iconst X (v := 0) (by decide) dX6_copyFrom_54 ?_
  refine j_aload_n X 0 rfl rfl dX6_copyFrom_55 ?_
  refine j_get X (by decide) (wE_6 _ rfl) rfl awF6 4 (by decide) aw_47 rfl (v := .ref (ad 48)) rfl dX6_copyFrom_56 ?_
  refine j_iconst X (v := 0) (by decide) dX6_copyFrom_59 ?_
  refine j_aload_n X 1 rfl rfl dX6_copyFrom_60 ?_
  refine j_get X (by decide) (wE_6 _ rfl) rfl awF6 6 (by decide) aw_873 rfl (v := .int (M_2 1 6)) rfl dX6_copyFrom_61 ?_
  refine j_eqi (v := 0) ((s_1 1 6 rfl).trans ((show _ = M 1 6 from by simp [up]).trans hz.2.2.2.2.2.2.2.1)) ?_
  refine j_copy X (i := 24) (j := 48) aw_872 aw_320 aw_321 aw_322 (by decide) (by decide) rfl rfl (by decide) (by decide) (by decide) (by decide) (by decide) (by decide) (by decide +kernel) dX6_copyFrom_64 ?_
  refine j_eqM (M1 := M_2) copy0 ?_
  refine j_aload_n X 0 rfl rfl dX6_copyFrom_67 ?_
  refine j_aload_n X 1 rfl rfl dX6_copyFrom_68 ?_
  refine j_get X (by decide) (wE_6 _ rfl) rfl awF6 5 (by decide) aw_871 rfl (v := .int (M_2 1 5)) rfl dX6_copyFrom_69 ?_
  refine j_eqi (v := 0) ((s_1 1 5 rfl).trans ((show _ = M 1 5 from by simp [up]).trans hz.2.2.2.2.2.2.1)) ?_
  refine j_put X (up M_2 25 5 0) up_o (by decide) (wE_6 _ rfl) rfl awF6 5 (by decide) (wP_6_5 _ _ rfl) tyX6 tyX6_ok nmX6 rfl (ty := .int) (by decide +kernel) rfl rfl (Nat.le_of_ble_eq_true rfl) aw_871 rfl dX6_copyFrom_72 ?_
  refine j_aload_n X 0 rfl rfl dX6_copyFrom_75 ?_
  refine j_aload_n X 1 rfl rfl dX6_copyFrom_76 ?_
  refine j_get X (by decide) (wE_6 _ rfl) rfl awF6 6 (by decide) aw_873 rfl (v := .int ((up M_2 25 5 0) 1 6)) rfl dX6_copyFrom_77 ?_
  refine j_eqi (v := 0) ((show _ = M_2 1 6 from by simp [up]).trans ((s_1 1 6 rfl).trans ((show _ = M 1 6 from by simp [up]).trans hz.2.2.2.2.2.2.2.1))) ?_
  refine j_put X (up (up M_2 25 5 0) 25 6 0) up_o (by decide) (wE_6 _ rfl) rfl awF6 6 (by decide) (wP_6_6 _ _ rfl) tyX6 tyX6_ok nmX6 rfl (ty := .int) (by decide +kernel) rfl rfl (Nat.le_of_ble_eq_true rfl) aw_873 rfl dX6_copyFrom_80 ?_
  refine j_aload_n X 0 rfl rfl dX6_copyFrom_83 ?_
  refine j_aload_n X 1 rfl rfl dX6_copyFrom_84 ?_
  refine j_get X (by decide) (wE_6 _ rfl) rfl awF6 7 (by decide) aw_48 rfl (v := .int ((up (up M_2 25 5 0) 25 6 0) 1 7)) rfl dX6_copyFrom_85 ?_
  refine j_eqi (v := 1) ((show _ = M_2 1 7 from by simp [up]).trans ((s_1 1 7 rfl).trans ((show _ = M 1 7 from by simp [up]).trans hz.2.2.2.2.2.2.2.2.1))) ?_
  refine j_put X (up (up (up M_2 25 5 0) 25 6 0) 25 7 1) up_o (by decide) (wE_6 _ rfl) rfl awF6 7 (by decide) (wP_6_7 _ _ rfl) tyX6 tyX6_ok nmX6 rfl (ty := .int) (by decide +kernel) rfl rfl (Nat.le_of_ble_eq_true rfl) aw_48 rfl dX6_copyFrom_88 ?_
  exact j_vret X hr hlocks dX6_copyFrom_91 (sm_up (sm_up (sm_up (sm_tr (sm_up (sm_up (sm_up (sm_up sm_rf rfl) rfl) rfl) rfl) (sm_w s_1 (by intro b k hb; simp only [Bool.or_eq_false_iff, Bool.and_eq_false_iff, beq_eq_false_iff_ne, ne_eq, decide_eq_false_iff_not] at hb ⊢; omega))) rfl) rfl) rfl)
set_option maxRecDepth 100000 in
set_option maxHeartbeats 4000000 in
theorem c0_X7_image (l : Launch) (D : va_G) (y : wY) (ad : Nat → Nat) (M : Mem) (hz : Z0 M) : MI l D y ad yX7_image (Cond.code yX7_image cX7_image 1 (some .int)) 6 M [.ref (ad 0)] (fun r _ => sp_image = r) := by
  refine MI_of (by decide) (Nat.le_of_ble_eq_true rfl) ?_
  intro p e s m args below meth c X hr hlocks
  refine j_lv (lv1 := [(0, .ref (ad 0))]) [0] rfl ?_
  refine j_aload_n X 0 rfl rfl dX7_image_0 ?_
  refine j_get X (by decide) (wE_7 _ rfl) rfl awF7 1 (by decide) aw_17 rfl (v := .ref (ad 25)) rfl dX7_image_1 ?_
  refine j_aload_n X 0 rfl rfl dX7_image_4 ?_
  refine j_get X (by decide) (wE_7 _ rfl) rfl awF7 0 (by decide) aw_16 rfl (v := .ref (ad 1)) rfl dX7_image_5 ?_
  refine j_callVNV X (nn := 1) (As := [.ref (ad 1)]) (st := []) (ci := 6) (by decide) (wE_6 _ rfl) rfl aw_868 aw_869 (c_copyWhole0 l D y ad M hz) (List.mem_of_getElem? (i := 48) rfl) aw_870 aw_15 (by decide +kernel) ⟨by decide, by decide⟩ rfl (Nat.le_of_ble_eq_true rfl) ⟨by decide, by decide⟩ dX7_image_8 ?_
  rintro M_2 s_1
  refine j_aload_n X 0 rfl rfl dX7_image_11 ?_
  refine j_dup X rfl dX7_image_12 ?_
  refine j_get X (by decide) (wE_7 _ rfl) rfl awF7 7 (by decide) aw_867 rfl (v := .int (M_2 0 7)) rfl dX7_image_13 ?_
  refine j_eqi (v := 0) ((s_1 0 7 rfl).trans hz.2.2.2.2.2.2.2.2.2.2.1) ?_
  refine j_iconst X (v := 1) (by decide) dX7_image_16 ?_
  refine j_iadd X dX7_image_17 ?_
  refine j_eqi (v := 1) (by decide) ?_
  refine j_put X (up M_2 0 7 1) up_o (by decide) (wE_7 _ rfl) rfl awF7 7 (by decide) (wP_7_7 _ _ rfl) tyX7 tyX7_ok nmX7 rfl (ty := .int) (by decide +kernel) rfl rfl (Nat.le_of_ble_eq_true rfl) aw_867 rfl dX7_image_18 ?_
  refine j_aload_n X 0 rfl rfl dX7_image_21 ?_
  refine j_get X (by decide) (wE_7 _ rfl) rfl awF7 7 (by decide) aw_867 rfl (v := .int ((up M_2 0 7 1) 0 7)) rfl dX7_image_22 ?_
  refine j_eqi (v := 1) (by simp [up]) ?_
  exact j_iret X hr hlocks dX7_image_25 (by unfold sp_image; (repeat' split) <;> first | rfl | omega | (exfalso; omega))
set_option maxRecDepth 100000 in
set_option maxHeartbeats 4000000 in
theorem c_turnInto_14 (l : Launch) (D : va_G) (y : wY) (ad : Nat → Nat) (M : Mem) (km : Int32) : MV l D y ad yX1_turnInto (Cond.code yX1_turnInto cX1_turnInto 2 none) 0 M [.ref (ad 14), .int km] (fun M' => sm (fun b _ => b == 14) M M') := by
  refine MV_of (by decide) (Nat.le_of_ble_eq_true rfl) ?_
  intro p e s m args below meth c X hr hlocks
  refine j_lv (lv1 := [(0, .ref (ad 14)), (1, .int km)]) [0, 1] rfl ?_
  refine j_aload_n X 0 rfl rfl dX1_turnInto_0 ?_
  refine j_iload_n X 1 rfl rfl dX1_turnInto_1 ?_
  refine j_bipush X (v := 10) (by decide) dX1_turnInto_2 ?_
  refine j_idiv X (by decide) dX1_turnInto_4 ?_
  refine j_put X (up M 14 0 (km / 10)) up_o (by decide) (wE_1 _ rfl) rfl awF1 0 (by decide) (wP_1_0 _ _ rfl) tyX1 tyX1_ok nmX1 rfl (ty := .int) (by decide +kernel) rfl rfl (Nat.le_of_ble_eq_true rfl) aw_175 rfl dX1_turnInto_5 ?_
  refine j_aload_n X 0 rfl rfl dX1_turnInto_8 ?_
  refine j_iload_n X 1 rfl rfl dX1_turnInto_9 ?_
  refine j_bipush X (v := 10) (by decide) dX1_turnInto_10 ?_
  refine j_irem X (by decide) dX1_turnInto_12 ?_
  refine j_put X (up (up M 14 0 (km / 10)) 14 1 (km - km / 10 * 10)) up_o (by decide) (wE_1 _ rfl) rfl awF1 1 (by decide) (wP_1_1 _ _ rfl) tyX1 tyX1_ok nmX1 rfl (ty := .int) (by decide +kernel) rfl rfl (Nat.le_of_ble_eq_true rfl) aw_176 rfl dX1_turnInto_13 ?_
  exact j_vret X hr hlocks dX1_turnInto_16 (sm_up (sm_up sm_rf rfl) rfl)
set_option maxRecDepth 100000 in
set_option maxHeartbeats 4000000 in
theorem c0_X7_quarrel (l : Launch) (D : va_G) (y : wY) (ad : Nat → Nat) (M : Mem) (hz : Z0 M) (km a e o : Int32) : MI l D y ad yX7_quarrel (Cond.code yX7_quarrel cX7_quarrel 7 (some .int)) 6 M [.ref (ad 0), .int km, .int a, .int e, .int o] (fun r _ => sp_quarrel km a e o = r) := by
  refine MI_of (by decide) (Nat.le_of_ble_eq_true rfl) ?_
  intro p e s m args below meth c X hr hlocks
  refine j_lv (lv1 := [(0, .ref (ad 0)), (1, .int km), (2, .int a), (3, .int e), (4, .int o)]) [0, 1, 2, 3, 4] rfl ?_
  refine j_aload_n X 0 rfl rfl dX7_quarrel_0 ?_
  refine j_get X (by decide) (wE_7 _ rfl) rfl awF7 0 (by decide) aw_16 rfl (v := .ref (ad 1)) rfl dX7_quarrel_1 ?_
  refine j_getN X (by decide) (wE_6 _ rfl) rfl awF6 2 (by decide) (List.mem_of_getElem? (i := 23) rfl) rfl (v := .ref (ad 12)) rfl dX7_quarrel_4 ?_
  refine j_astore X [(5, .ref (ad 12)), (0, .ref (ad 0)), (1, .int km), (2, .int a), (3, .int e), (4, .int o)] (by decide) rfl dX7_quarrel_7 ?_
  refine j_iload_n X 2 rfl rfl dX7_quarrel_9 ?_
  refine j_callSI X (nn := 1) (As := [.int km]) (st := []) aw_170 (c_X7_isKindAndM l D y ad M km) aw_169 aw_171 aw_2 (by decide +kernel) ⟨by decide, by decide⟩ rfl (Nat.le_of_ble_eq_true rfl) ⟨by decide, by decide⟩ dX7_quarrel_10 ?_
  rintro r_ M1_ (⟨rfl, rfl, h_1⟩ | ⟨rfl, rfl, h_1⟩)
  · refine j_if_eq X 52 (by decide) dX7_quarrel_13 (fun c_2 => False.elim (by revert c_2; decide)) (fun c_2 => ?_)
    refine j_iload_n X 3 rfl rfl dX7_quarrel_16 ?_
    refine j_iconst X (v := 0) (by decide) dX7_quarrel_17 ?_
    refine j_bipush X (v := 9) (by decide) dX7_quarrel_18 ?_
    refine j_callSI X (nn := 3) (As := [.int a, .int 0, .int 9]) (st := []) aw_110 (c_X7_isWithin l D y ad M a 0 9 0 9 (by decide) (by decide)) aw_109 aw_111 aw_2 (by decide +kernel) ⟨by decide, by decide⟩ rfl (Nat.le_of_ble_eq_true rfl) ⟨by decide, by decide⟩ dX7_quarrel_20 ?_
    rintro r_ M1_ (⟨rfl, rfl, h_3⟩ | ⟨rfl, rfl, h_3⟩)
    · refine j_if_eq X 52 (by decide) dX7_quarrel_23 (fun c_4 => False.elim (by revert c_4; decide)) (fun c_4 => ?_)
      refine j_iload_n X 4 rfl rfl dX7_quarrel_26 ?_
      refine j_iconst X (v := 0) (by decide) dX7_quarrel_27 ?_
      refine j_bipush X (v := 99) (by decide) dX7_quarrel_28 ?_
      refine j_callSI X (nn := 3) (As := [.int e, .int 0, .int 99]) (st := []) aw_110 (c_X7_isWithin l D y ad M e 0 99 0 99 (by decide) (by decide)) aw_109 aw_111 aw_2 (by decide +kernel) ⟨by decide, by decide⟩ rfl (Nat.le_of_ble_eq_true rfl) ⟨by decide, by decide⟩ dX7_quarrel_30 ?_
      rintro r_ M1_ (⟨rfl, rfl, h_5⟩ | ⟨rfl, rfl, h_5⟩)
      · refine j_if_eq X 52 (by decide) dX7_quarrel_33 (fun c_6 => False.elim (by revert c_6; decide)) (fun c_6 => ?_)
        refine j_iload X 5 rfl dX7_quarrel_36 ?_
        refine j_iconst X (v := (-1)) (by decide) dX7_quarrel_38 ?_
        refine j_aload X 0 rfl dX7_quarrel_39 ?_
        refine j_getN X (by decide) (wE_0 _ rfl) rfl awF0 3 (by decide) (List.mem_of_getElem? (i := 15) rfl) rfl (v := .int (M 12 3)) rfl dX7_quarrel_41 ?_
        refine j_eqi (v := 0) hz.1 ?_
        refine j_iconst X (v := 1) (by decide) dX7_quarrel_44 ?_
        refine j_isub X dX7_quarrel_45 ?_
        refine j_eqi (v := (-1)) (by decide) ?_
        refine j_callSI X (nn := 3) (As := [.int o, .int (-1), .int (-1)]) (st := []) aw_110 (c_X7_isWithin l D y ad M o (-1) (-1) (-1) (-1) (by decide) (by decide)) aw_109 aw_111 aw_2 (by decide +kernel) ⟨by decide, by decide⟩ rfl (Nat.le_of_ble_eq_true rfl) ⟨by decide, by decide⟩ dX7_quarrel_46 ?_
        rintro r_ M1_ (⟨rfl, rfl, h_7⟩ | ⟨rfl, rfl, h_7⟩)
        · refine j_if_ne X 59 (by decide) dX7_quarrel_49 (fun c_8 => ?_) (fun c_8 => False.elim (by revert c_8; decide))
          refine j_aload X 0 rfl dX7_quarrel_59 ?_
          refine j_getN X (by decide) (wE_0 _ rfl) rfl awF0 3 (by decide) (List.mem_of_getElem? (i := 15) rfl) rfl (v := .int (M 12 3)) rfl dX7_quarrel_61 ?_
          refine j_eqi (v := 0) hz.1 ?_
          refine j_bipush X (v := 9) (by decide) dX7_quarrel_64 ?_
          refine j_icmp_lt X 76 (by decide) dX7_quarrel_66 (fun c_9 => ?_) (fun c_9 => False.elim (by revert c_9; decide))
          refine j_aload X 0 rfl dX7_quarrel_76 ?_
          refine j_getN X (by decide) (wE_0 _ rfl) rfl awF0 2 (by decide) (List.mem_of_getElem? (i := 14) rfl) rfl (v := .ref (ad 13)) rfl dX7_quarrel_78 ?_
          refine j_aload X 0 rfl dX7_quarrel_81 ?_
          refine j_getN X (by decide) (wE_0 _ rfl) rfl awF0 3 (by decide) (List.mem_of_getElem? (i := 15) rfl) rfl (v := .int (M 12 3)) rfl dX7_quarrel_83 ?_
          refine j_eqi (v := 0) hz.1 ?_
          refine j_aald10 X (by decide) rfl (by unfold vp_in; decide) dX7_quarrel_86 ?_
          refine j_eqr (v := 14) rfl ?_
          refine j_astore X [(6, .ref (ad 14)), (5, .ref (ad 12)), (0, .ref (ad 0)), (1, .int km), (2, .int a), (3, .int e), (4, .int o)] (by decide) rfl dX7_quarrel_87 ?_
          refine j_aload X 0 rfl dX7_quarrel_89 ?_
          refine j_iload_n X 3 rfl rfl dX7_quarrel_91 ?_
          refine j_callVNV X (nn := 1) (As := [.int km]) (st := []) (ci := 1) (by decide) (wE_1 _ rfl) rfl aw_172 aw_173 (c_turnInto_14 l D y ad M km) (List.mem_of_getElem? (i := 12) rfl) aw_174 aw_65 (by decide +kernel) ⟨by decide, by decide⟩ rfl (Nat.le_of_ble_eq_true rfl) ⟨by decide, by decide⟩ dX7_quarrel_92 ?_
          rintro M_11 s_10
          refine j_aload X 0 rfl dX7_quarrel_95 ?_
          refine j_iload_n X 4 rfl rfl dX7_quarrel_97 ?_
          refine j_putN X (up M_11 14 2 a) up_o (by decide) (wE_1 _ rfl) rfl awF1 2 (by decide) (wP_1_2 _ _ rfl) tyX1 tyX1_ok nmX1 rfl (ty := .int) (by decide +kernel) rfl rfl (Nat.le_of_ble_eq_true rfl) (List.mem_of_getElem? (i := 4) rfl) rfl dX7_quarrel_98 ?_
          refine j_aload X 0 rfl dX7_quarrel_101 ?_
          refine j_iload_n X 5 rfl rfl dX7_quarrel_103 ?_
          refine j_putN X (up (up M_11 14 2 a) 14 3 e) up_o (by decide) (wE_1 _ rfl) rfl awF1 3 (by decide) (wP_1_3 _ _ rfl) tyX1 tyX1_ok nmX1 rfl (ty := .int) (by decide +kernel) rfl rfl (Nat.le_of_ble_eq_true rfl) (List.mem_of_getElem? (i := 6) rfl) rfl dX7_quarrel_104 ?_
          refine j_aload X 0 rfl dX7_quarrel_107 ?_
          refine j_iload X 6 rfl dX7_quarrel_109 ?_
          refine j_putN X (up (up (up M_11 14 2 a) 14 3 e) 14 4 o) up_o (by decide) (wE_1 _ rfl) rfl awF1 4 (by decide) (wP_1_4 _ _ rfl) tyX1 tyX1_ok nmX1 rfl (ty := .int) (by decide +kernel) rfl rfl (Nat.le_of_ble_eq_true rfl) (List.mem_of_getElem? (i := 8) rfl) rfl dX7_quarrel_111 ?_
          refine j_aload X 0 rfl dX7_quarrel_114 ?_
          refine j_iconst X (v := 0) (by decide) dX7_quarrel_116 ?_
          refine j_putN X (up (up (up (up M_11 14 2 a) 14 3 e) 14 4 o) 14 6 0) up_o (by decide) (wE_1 _ rfl) rfl awF1 6 (by decide) (wP_1_6 _ _ rfl) tyX1 tyX1_ok nmX1 rfl (ty := .boolean) (by decide +kernel) rfl rfl (Nat.le_of_ble_eq_true rfl) (List.mem_of_getElem? (i := 12) rfl) rfl dX7_quarrel_117 ?_
          refine j_aload X 0 rfl dX7_quarrel_120 ?_
          refine j_iconst X (v := 0) (by decide) dX7_quarrel_122 ?_
          refine j_putN X (up (up (up (up (up M_11 14 2 a) 14 3 e) 14 4 o) 14 6 0) 14 5 0) up_o (by decide) (wE_1 _ rfl) rfl awF1 5 (by decide) (wP_1_5 _ _ rfl) tyX1 tyX1_ok nmX1 rfl (ty := .int) (by decide +kernel) rfl rfl (Nat.le_of_ble_eq_true rfl) (List.mem_of_getElem? (i := 10) rfl) rfl dX7_quarrel_123 ?_
          refine j_aload X 1 rfl dX7_quarrel_126 ?_
          refine j_dup X rfl dX7_quarrel_128 ?_
          refine j_getN X (by decide) (wE_0 _ rfl) rfl awF0 3 (by decide) (List.mem_of_getElem? (i := 15) rfl) rfl (v := .int ((up (up (up (up (up M_11 14 2 a) 14 3 e) 14 4 o) 14 6 0) 14 5 0) 12 3)) rfl dX7_quarrel_129 ?_
          refine j_eqi (v := 0) ((show _ = M_11 12 3 from by simp [up]).trans ((s_10 12 3 rfl).trans hz.1)) ?_
          refine j_iconst X (v := 1) (by decide) dX7_quarrel_132 ?_
          refine j_iadd X dX7_quarrel_133 ?_
          refine j_eqi (v := 1) (by decide) ?_
          refine j_putN X (up (up (up (up (up (up M_11 14 2 a) 14 3 e) 14 4 o) 14 6 0) 14 5 0) 12 3 1) up_o (by decide) (wE_0 _ rfl) rfl awF0 3 (by decide) (wP_0_3 _ _ rfl) tyX0 tyX0_ok nmX0 rfl (ty := .int) (by decide +kernel) rfl rfl (Nat.le_of_ble_eq_true rfl) (List.mem_of_getElem? (i := 15) rfl) rfl dX7_quarrel_134 ?_
          refine j_aload X 1 rfl dX7_quarrel_137 ?_
          refine j_getN X (by decide) (wE_0 _ rfl) rfl awF0 3 (by decide) (List.mem_of_getElem? (i := 15) rfl) rfl (v := .int ((up (up (up (up (up (up M_11 14 2 a) 14 3 e) 14 4 o) 14 6 0) 14 5 0) 12 3 1) 12 3)) rfl dX7_quarrel_139 ?_
          refine j_eqi (v := 1) (by simp [up]) ?_
          refine j_iconst X (v := 1) (by decide) dX7_quarrel_142 ?_
          refine j_isub X dX7_quarrel_143 ?_
          refine j_eqi (v := 0) (by decide) ?_
          exact j_iret X hr hlocks dX7_quarrel_144 (by unfold sp_quarrel; (repeat' split) <;> first | rfl | omega | (exfalso; omega))
        · refine j_if_ne X 59 (by decide) dX7_quarrel_49 (fun c_12 => False.elim (by revert c_12; decide)) (fun c_12 => ?_)
          refine j_aload_n X 1 rfl rfl dX7_quarrel_52 ?_
          refine j_ldc X (v := (-1000000001)) aw_108 dX7_quarrel_53 ?_
          refine j_callVI X (nn := 1) (As := [.int (-1000000001)]) (st := []) (ci := 7) (by decide) (wE_7 _ rfl) rfl aw_117 aw_118 (c_X7_refuse l D y ad M (-1000000001) 1 (by decide) (by decide)) aw_116 aw_119 aw_2 (by decide +kernel) ⟨by decide, by decide⟩ rfl (Nat.le_of_ble_eq_true rfl) ⟨by decide, by decide⟩ dX7_quarrel_55 ?_
          rintro r_ M1_ ⟨rfl, rfl⟩
          exact j_iret X hr hlocks dX7_quarrel_58 (by unfold sp_quarrel; (repeat' split) <;> first | rfl | omega | (exfalso; omega))
      · refine j_if_eq X 52 (by decide) dX7_quarrel_33 (fun c_13 => ?_) (fun c_13 => False.elim (by revert c_13; decide))
        refine j_aload_n X 1 rfl rfl dX7_quarrel_52 ?_
        refine j_ldc X (v := (-1000000001)) aw_108 dX7_quarrel_53 ?_
        refine j_callVI X (nn := 1) (As := [.int (-1000000001)]) (st := []) (ci := 7) (by decide) (wE_7 _ rfl) rfl aw_117 aw_118 (c_X7_refuse l D y ad M (-1000000001) 1 (by decide) (by decide)) aw_116 aw_119 aw_2 (by decide +kernel) ⟨by decide, by decide⟩ rfl (Nat.le_of_ble_eq_true rfl) ⟨by decide, by decide⟩ dX7_quarrel_55 ?_
        rintro r_ M1_ ⟨rfl, rfl⟩
        exact j_iret X hr hlocks dX7_quarrel_58 (by unfold sp_quarrel; (repeat' split) <;> first | rfl | omega | (exfalso; omega))
    · refine j_if_eq X 52 (by decide) dX7_quarrel_23 (fun c_14 => ?_) (fun c_14 => False.elim (by revert c_14; decide))
      refine j_aload_n X 1 rfl rfl dX7_quarrel_52 ?_
      refine j_ldc X (v := (-1000000001)) aw_108 dX7_quarrel_53 ?_
      refine j_callVI X (nn := 1) (As := [.int (-1000000001)]) (st := []) (ci := 7) (by decide) (wE_7 _ rfl) rfl aw_117 aw_118 (c_X7_refuse l D y ad M (-1000000001) 1 (by decide) (by decide)) aw_116 aw_119 aw_2 (by decide +kernel) ⟨by decide, by decide⟩ rfl (Nat.le_of_ble_eq_true rfl) ⟨by decide, by decide⟩ dX7_quarrel_55 ?_
      rintro r_ M1_ ⟨rfl, rfl⟩
      exact j_iret X hr hlocks dX7_quarrel_58 (by unfold sp_quarrel; (repeat' split) <;> first | rfl | omega | (exfalso; omega))
  · refine j_if_eq X 52 (by decide) dX7_quarrel_13 (fun c_15 => ?_) (fun c_15 => False.elim (by revert c_15; decide))
    refine j_aload_n X 1 rfl rfl dX7_quarrel_52 ?_
    refine j_ldc X (v := (-1000000001)) aw_108 dX7_quarrel_53 ?_
    refine j_callVI X (nn := 1) (As := [.int (-1000000001)]) (st := []) (ci := 7) (by decide) (wE_7 _ rfl) rfl aw_117 aw_118 (c_X7_refuse l D y ad M (-1000000001) 1 (by decide) (by decide)) aw_116 aw_119 aw_2 (by decide +kernel) ⟨by decide, by decide⟩ rfl (Nat.le_of_ble_eq_true rfl) ⟨by decide, by decide⟩ dX7_quarrel_55 ?_
    rintro r_ M1_ ⟨rfl, rfl⟩
    exact j_iret X hr hlocks dX7_quarrel_58 (by unfold sp_quarrel; (repeat' split) <;> first | rfl | omega | (exfalso; omega))
end
