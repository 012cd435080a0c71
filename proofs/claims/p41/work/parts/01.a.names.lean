-- ===== PART A: goes FIRST, ahead of the names: the tables' words, and 'selects' of the private methods out of them =====
/-- a private method of a class that the tables say can be made, by its rows of tables_1 -/
def lw_okq (q : MethodName × Nat) : Prop := (q.1.cls ≠ "java/lang/invoke/MethodHandle" ∧ q.1.cls ≠ "java/lang/invoke/VarHandle") ∧ Cond.instantiable q.1.cls q.2 ∈ tables_1 ∧ Cond.privateMethod q.1 ∈ tables_1 ∧ Cond.instanceMethod q.1 ∈ tables_1
theorem lw_p0 : lw_okq (⟨"KnivesGround$Text", "clear", "(I)V"⟩, 6) := ⟨⟨by decide +kernel, by decide +kernel⟩, List.mem_of_getElem? (i := 28) (by decide +kernel), List.mem_of_getElem? (i := 138) (by decide +kernel), List.mem_of_getElem? (i := 139) (by decide +kernel)⟩
theorem lw_p1 : lw_okq (⟨"KnivesGround", "refuse", "(I)I"⟩, 8) := ⟨⟨by decide +kernel, by decide +kernel⟩, List.mem_of_getElem? (i := 14) (by decide +kernel), List.mem_of_getElem? (i := 285) (by decide +kernel), List.mem_of_getElem? (i := 286) (by decide +kernel)⟩
theorem lw_p2 : lw_okq (⟨"KnivesGround$Ground", "setGrinder", "(II)I"⟩, 9) := ⟨⟨by decide +kernel, by decide +kernel⟩, List.mem_of_getElem? (i := 55) (by decide +kernel), List.mem_of_getElem? (i := 290) (by decide +kernel), List.mem_of_getElem? (i := 291) (by decide +kernel)⟩
theorem lw_p3 : lw_okq (⟨"KnivesGround$Ground", "setInArea", "(I)I"⟩, 9) := ⟨⟨by decide +kernel, by decide +kernel⟩, List.mem_of_getElem? (i := 55) (by decide +kernel), List.mem_of_getElem? (i := 298) (by decide +kernel), List.mem_of_getElem? (i := 299) (by decide +kernel)⟩
theorem lw_p4 : lw_okq (⟨"KnivesGround$One", "turnInto", "(I)V"⟩, 7) := ⟨⟨by decide +kernel, by decide +kernel⟩, List.mem_of_getElem? (i := 62) (by decide +kernel), List.mem_of_getElem? (i := 310) (by decide +kernel), List.mem_of_getElem? (i := 311) (by decide +kernel)⟩
theorem lw_p5 : lw_okq (⟨"KnivesGround", "isQuarrel", "(I)Z"⟩, 8) := ⟨⟨by decide +kernel, by decide +kernel⟩, List.mem_of_getElem? (i := 14) (by decide +kernel), List.mem_of_getElem? (i := 318) (by decide +kernel), List.mem_of_getElem? (i := 319) (by decide +kernel)⟩
theorem lw_p6 : lw_okq (⟨"KnivesGround$Ground", "gainsOf", "(LKnivesGround$One;)I"⟩, 9) := ⟨⟨by decide +kernel, by decide +kernel⟩, List.mem_of_getElem? (i := 55) (by decide +kernel), List.mem_of_getElem? (i := 322) (by decide +kernel), List.mem_of_getElem? (i := 323) (by decide +kernel)⟩
theorem lw_p7 : lw_okq (⟨"KnivesGround$Text", "gives", "(III)I"⟩, 6) := ⟨⟨by decide +kernel, by decide +kernel⟩, List.mem_of_getElem? (i := 28) (by decide +kernel), List.mem_of_getElem? (i := 326) (by decide +kernel), List.mem_of_getElem? (i := 327) (by decide +kernel)⟩
theorem lw_p8 : lw_okq (⟨"KnivesGround$Text", "workedOut", "(III)I"⟩, 6) := ⟨⟨by decide +kernel, by decide +kernel⟩, List.mem_of_getElem? (i := 28) (by decide +kernel), List.mem_of_getElem? (i := 330) (by decide +kernel), List.mem_of_getElem? (i := 331) (by decide +kernel)⟩
theorem lw_p9 : lw_okq (⟨"KnivesGround$One", "gains", "(II)I"⟩, 7) := ⟨⟨by decide +kernel, by decide +kernel⟩, List.mem_of_getElem? (i := 62) (by decide +kernel), List.mem_of_getElem? (i := 343) (by decide +kernel), List.mem_of_getElem? (i := 344) (by decide +kernel)⟩
theorem lw_p10 : lw_okq (⟨"KnivesGround$One", "needs", "()I"⟩, 7) := ⟨⟨by decide +kernel, by decide +kernel⟩, List.mem_of_getElem? (i := 62) (by decide +kernel), List.mem_of_getElem? (i := 348) (by decide +kernel), List.mem_of_getElem? (i := 349) (by decide +kernel)⟩
theorem lw_p11 : lw_okq (⟨"KnivesGround$One", "dulls", "()I"⟩, 7) := ⟨⟨by decide +kernel, by decide +kernel⟩, List.mem_of_getElem? (i := 62) (by decide +kernel), List.mem_of_getElem? (i := 352) (by decide +kernel), List.mem_of_getElem? (i := 353) (by decide +kernel)⟩
theorem lw_p12 : lw_okq (⟨"KnivesGround$One", "changeTo", "(II)I"⟩, 7) := ⟨⟨by decide +kernel, by decide +kernel⟩, List.mem_of_getElem? (i := 62) (by decide +kernel), List.mem_of_getElem? (i := 363) (by decide +kernel), List.mem_of_getElem? (i := 364) (by decide +kernel)⟩
theorem lw_p13 : lw_okq (⟨"KnivesGround$One", "isOfKind", "(I)Z"⟩, 7) := ⟨⟨by decide +kernel, by decide +kernel⟩, List.mem_of_getElem? (i := 62) (by decide +kernel), List.mem_of_getElem? (i := 375) (by decide +kernel), List.mem_of_getElem? (i := 376) (by decide +kernel)⟩
theorem lw_p14 : lw_okq (⟨"KnivesGround$Reader", "read", "([III)I"⟩, 5) := ⟨⟨by decide +kernel, by decide +kernel⟩, List.mem_of_getElem? (i := 177) (by decide +kernel), List.mem_of_getElem? (i := 390) (by decide +kernel), List.mem_of_getElem? (i := 391) (by decide +kernel)⟩
theorem lw_p15 : lw_okq (⟨"KnivesGround$Reader", "readLevel", "(II)I"⟩, 5) := ⟨⟨by decide +kernel, by decide +kernel⟩, List.mem_of_getElem? (i := 177) (by decide +kernel), List.mem_of_getElem? (i := 399) (by decide +kernel), List.mem_of_getElem? (i := 400) (by decide +kernel)⟩
def lw_privs_1 : List (MethodName × Nat) := [(⟨"KnivesGround$Text", "clear", "(I)V"⟩, 6), (⟨"KnivesGround", "refuse", "(I)I"⟩, 8), (⟨"KnivesGround$Ground", "setGrinder", "(II)I"⟩, 9), (⟨"KnivesGround$Ground", "setInArea", "(I)I"⟩, 9), (⟨"KnivesGround$One", "turnInto", "(I)V"⟩, 7), (⟨"KnivesGround", "isQuarrel", "(I)Z"⟩, 8), (⟨"KnivesGround$Ground", "gainsOf", "(LKnivesGround$One;)I"⟩, 9), (⟨"KnivesGround$Text", "gives", "(III)I"⟩, 6), (⟨"KnivesGround$Text", "workedOut", "(III)I"⟩, 6), (⟨"KnivesGround$One", "gains", "(II)I"⟩, 7), (⟨"KnivesGround$One", "needs", "()I"⟩, 7), (⟨"KnivesGround$One", "dulls", "()I"⟩, 7), (⟨"KnivesGround$One", "changeTo", "(II)I"⟩, 7), (⟨"KnivesGround$One", "isOfKind", "(I)Z"⟩, 7), (⟨"KnivesGround$Reader", "read", "([III)I"⟩, 5), (⟨"KnivesGround$Reader", "readLevel", "(II)I"⟩, 5)]
theorem lw_r1 : ∀ q ∈ lw_privs_1, lw_okq q := List.forall_mem_cons.mpr ⟨lw_p0, List.forall_mem_cons.mpr ⟨lw_p1, List.forall_mem_cons.mpr ⟨lw_p2, List.forall_mem_cons.mpr ⟨lw_p3, List.forall_mem_cons.mpr ⟨lw_p4, List.forall_mem_cons.mpr ⟨lw_p5, List.forall_mem_cons.mpr ⟨lw_p6, List.forall_mem_cons.mpr ⟨lw_p7, List.forall_mem_cons.mpr ⟨lw_p8, List.forall_mem_cons.mpr ⟨lw_p9, List.forall_mem_cons.mpr ⟨lw_p10, List.forall_mem_cons.mpr ⟨lw_p11, List.forall_mem_cons.mpr ⟨lw_p12, List.forall_mem_cons.mpr ⟨lw_p13, List.forall_mem_cons.mpr ⟨lw_p14, List.forall_mem_cons.mpr ⟨lw_p15, fun _ h => absurd h List.not_mem_nil⟩⟩⟩⟩⟩⟩⟩⟩⟩⟩⟩⟩⟩⟩⟩⟩
theorem lw_p16 : lw_okq (⟨"KnivesGround$Reader", "readInnermost", "(I)I"⟩, 5) := ⟨⟨by decide +kernel, by decide +kernel⟩, List.mem_of_getElem? (i := 177) (by decide +kernel), List.mem_of_getElem? (i := 403) (by decide +kernel), List.mem_of_getElem? (i := 404) (by decide +kernel)⟩
theorem lw_p17 : lw_okq (⟨"KnivesGround$Reader", "next", "()I"⟩, 5) := ⟨⟨by decide +kernel, by decide +kernel⟩, List.mem_of_getElem? (i := 177) (by decide +kernel), List.mem_of_getElem? (i := 407) (by decide +kernel), List.mem_of_getElem? (i := 408) (by decide +kernel)⟩
theorem lw_p18 : lw_okq (⟨"KnivesGround$Reader", "readNumber", "()I"⟩, 5) := ⟨⟨by decide +kernel, by decide +kernel⟩, List.mem_of_getElem? (i := 177) (by decide +kernel), List.mem_of_getElem? (i := 415) (by decide +kernel), List.mem_of_getElem? (i := 416) (by decide +kernel)⟩
theorem lw_p19 : lw_okq (⟨"KnivesGround$Text", "add", "(III)I"⟩, 6) := ⟨⟨by decide +kernel, by decide +kernel⟩, List.mem_of_getElem? (i := 28) (by decide +kernel), List.mem_of_getElem? (i := 419) (by decide +kernel), List.mem_of_getElem? (i := 420) (by decide +kernel)⟩
theorem lw_p20 : lw_okq (⟨"KnivesGround$Reader", "nameOf", "(I)I"⟩, 5) := ⟨⟨by decide +kernel, by decide +kernel⟩, List.mem_of_getElem? (i := 177) (by decide +kernel), List.mem_of_getElem? (i := 423) (by decide +kernel), List.mem_of_getElem? (i := 424) (by decide +kernel)⟩
theorem lw_p21 : lw_okq (⟨"KnivesGround$Reader", "readNot", "(I)I"⟩, 5) := ⟨⟨by decide +kernel, by decide +kernel⟩, List.mem_of_getElem? (i := 177) (by decide +kernel), List.mem_of_getElem? (i := 427) (by decide +kernel), List.mem_of_getElem? (i := 428) (by decide +kernel)⟩
theorem lw_p22 : lw_okq (⟨"KnivesGround$Reader", "readBrackets", "(I)I"⟩, 5) := ⟨⟨by decide +kernel, by decide +kernel⟩, List.mem_of_getElem? (i := 177) (by decide +kernel), List.mem_of_getElem? (i := 431) (by decide +kernel), List.mem_of_getElem? (i := 432) (by decide +kernel)⟩
theorem lw_p23 : lw_okq (⟨"KnivesGround$Reader", "stop", "()I"⟩, 5) := ⟨⟨by decide +kernel, by decide +kernel⟩, List.mem_of_getElem? (i := 177) (by decide +kernel), List.mem_of_getElem? (i := 435) (by decide +kernel), List.mem_of_getElem? (i := 436) (by decide +kernel)⟩
theorem lw_p24 : lw_okq (⟨"KnivesGround$Whole", "textOf", "(I)LKnivesGround$Text;"⟩, 8) := ⟨⟨by decide +kernel, by decide +kernel⟩, List.mem_of_getElem? (i := 22) (by decide +kernel), List.mem_of_getElem? (i := 442) (by decide +kernel), List.mem_of_getElem? (i := 443) (by decide +kernel)⟩
theorem lw_p25 : lw_okq (⟨"KnivesGround$Text", "copyFrom", "(LKnivesGround$Text;)V"⟩, 6) := ⟨⟨by decide +kernel, by decide +kernel⟩, List.mem_of_getElem? (i := 28) (by decide +kernel), List.mem_of_getElem? (i := 446) (by decide +kernel), List.mem_of_getElem? (i := 447) (by decide +kernel)⟩
theorem lw_p26 : lw_okq (⟨"KnivesGround$Ground", "passDay", "(Z)V"⟩, 9) := ⟨⟨by decide +kernel, by decide +kernel⟩, List.mem_of_getElem? (i := 55) (by decide +kernel), List.mem_of_getElem? (i := 461) (by decide +kernel), List.mem_of_getElem? (i := 462) (by decide +kernel)⟩
theorem lw_p27 : lw_okq (⟨"KnivesGround$Ground", "grindArea", "()V"⟩, 9) := ⟨⟨by decide +kernel, by decide +kernel⟩, List.mem_of_getElem? (i := 55) (by decide +kernel), List.mem_of_getElem? (i := 465) (by decide +kernel), List.mem_of_getElem? (i := 466) (by decide +kernel)⟩
theorem lw_p28 : lw_okq (⟨"KnivesGround$Ground", "restDay", "(Z)V"⟩, 9) := ⟨⟨by decide +kernel, by decide +kernel⟩, List.mem_of_getElem? (i := 55) (by decide +kernel), List.mem_of_getElem? (i := 472) (by decide +kernel), List.mem_of_getElem? (i := 473) (by decide +kernel)⟩
theorem lw_p29 : lw_okq (⟨"KnivesGround$Ground", "endOrDull", "(Z)V"⟩, 9) := ⟨⟨by decide +kernel, by decide +kernel⟩, List.mem_of_getElem? (i := 55) (by decide +kernel), List.mem_of_getElem? (i := 476) (by decide +kernel), List.mem_of_getElem? (i := 477) (by decide +kernel)⟩
theorem lw_p30 : lw_okq (⟨"KnivesGround$Ground", "isFree", "(LKnivesGround$One;)Z"⟩, 9) := ⟨⟨by decide +kernel, by decide +kernel⟩, List.mem_of_getElem? (i := 55) (by decide +kernel), List.mem_of_getElem? (i := 481) (by decide +kernel), List.mem_of_getElem? (i := 482) (by decide +kernel)⟩
theorem lw_p31 : lw_okq (⟨"KnivesGround$Ground", "endedMany", "()I"⟩, 9) := ⟨⟨by decide +kernel, by decide +kernel⟩, List.mem_of_getElem? (i := 55) (by decide +kernel), List.mem_of_getElem? (i := 488) (by decide +kernel), List.mem_of_getElem? (i := 489) (by decide +kernel)⟩
def lw_privs_2 : List (MethodName × Nat) := [(⟨"KnivesGround$Reader", "readInnermost", "(I)I"⟩, 5), (⟨"KnivesGround$Reader", "next", "()I"⟩, 5), (⟨"KnivesGround$Reader", "readNumber", "()I"⟩, 5), (⟨"KnivesGround$Text", "add", "(III)I"⟩, 6), (⟨"KnivesGround$Reader", "nameOf", "(I)I"⟩, 5), (⟨"KnivesGround$Reader", "readNot", "(I)I"⟩, 5), (⟨"KnivesGround$Reader", "readBrackets", "(I)I"⟩, 5), (⟨"KnivesGround$Reader", "stop", "()I"⟩, 5), (⟨"KnivesGround$Whole", "textOf", "(I)LKnivesGround$Text;"⟩, 8), (⟨"KnivesGround$Text", "copyFrom", "(LKnivesGround$Text;)V"⟩, 6), (⟨"KnivesGround$Ground", "passDay", "(Z)V"⟩, 9), (⟨"KnivesGround$Ground", "grindArea", "()V"⟩, 9), (⟨"KnivesGround$Ground", "restDay", "(Z)V"⟩, 9), (⟨"KnivesGround$Ground", "endOrDull", "(Z)V"⟩, 9), (⟨"KnivesGround$Ground", "isFree", "(LKnivesGround$One;)Z"⟩, 9), (⟨"KnivesGround$Ground", "endedMany", "()I"⟩, 9)]
theorem lw_r2 : ∀ q ∈ lw_privs_2, lw_okq q := List.forall_mem_cons.mpr ⟨lw_p16, List.forall_mem_cons.mpr ⟨lw_p17, List.forall_mem_cons.mpr ⟨lw_p18, List.forall_mem_cons.mpr ⟨lw_p19, List.forall_mem_cons.mpr ⟨lw_p20, List.forall_mem_cons.mpr ⟨lw_p21, List.forall_mem_cons.mpr ⟨lw_p22, List.forall_mem_cons.mpr ⟨lw_p23, List.forall_mem_cons.mpr ⟨lw_p24, List.forall_mem_cons.mpr ⟨lw_p25, List.forall_mem_cons.mpr ⟨lw_p26, List.forall_mem_cons.mpr ⟨lw_p27, List.forall_mem_cons.mpr ⟨lw_p28, List.forall_mem_cons.mpr ⟨lw_p29, List.forall_mem_cons.mpr ⟨lw_p30, List.forall_mem_cons.mpr ⟨lw_p31, fun _ h => absurd h List.not_mem_nil⟩⟩⟩⟩⟩⟩⟩⟩⟩⟩⟩⟩⟩⟩⟩⟩
theorem lw_p32 : lw_okq (⟨"KnivesGround$Ground", "setEnded", "()I"⟩, 9) := ⟨⟨by decide +kernel, by decide +kernel⟩, List.mem_of_getElem? (i := 55) (by decide +kernel), List.mem_of_getElem? (i := 492) (by decide +kernel), List.mem_of_getElem? (i := 493) (by decide +kernel)⟩
theorem lw_p33 : lw_okq (⟨"KnivesGround$Whole", "draw", "()I"⟩, 8) := ⟨⟨by decide +kernel, by decide +kernel⟩, List.mem_of_getElem? (i := 22) (by decide +kernel), List.mem_of_getElem? (i := 506) (by decide +kernel), List.mem_of_getElem? (i := 507) (by decide +kernel)⟩
theorem lw_p34 : lw_okq (⟨"KnivesGround", "think", "()V"⟩, 8) := ⟨⟨by decide +kernel, by decide +kernel⟩, List.mem_of_getElem? (i := 14) (by decide +kernel), List.mem_of_getElem? (i := 515) (by decide +kernel), List.mem_of_getElem? (i := 516) (by decide +kernel)⟩
theorem lw_p35 : lw_okq (⟨"KnivesGround$Ground", "copyFrom", "(LKnivesGround$Ground;)V"⟩, 9) := ⟨⟨by decide +kernel, by decide +kernel⟩, List.mem_of_getElem? (i := 55) (by decide +kernel), List.mem_of_getElem? (i := 519) (by decide +kernel), List.mem_of_getElem? (i := 520) (by decide +kernel)⟩
theorem lw_p36 : lw_okq (⟨"KnivesGround$One", "copyFrom", "(LKnivesGround$One;)V"⟩, 7) := ⟨⟨by decide +kernel, by decide +kernel⟩, List.mem_of_getElem? (i := 62) (by decide +kernel), List.mem_of_getElem? (i := 523) (by decide +kernel), List.mem_of_getElem? (i := 524) (by decide +kernel)⟩
theorem lw_p37 : lw_okq (⟨"KnivesGround", "thinkDays", "(I)V"⟩, 8) := ⟨⟨by decide +kernel, by decide +kernel⟩, List.mem_of_getElem? (i := 14) (by decide +kernel), List.mem_of_getElem? (i := 527) (by decide +kernel), List.mem_of_getElem? (i := 528) (by decide +kernel)⟩
theorem lw_p38 : lw_okq (⟨"KnivesGround$Ground", "setItHangsOn", "(I)I"⟩, 9) := ⟨⟨by decide +kernel, by decide +kernel⟩, List.mem_of_getElem? (i := 55) (by decide +kernel), List.mem_of_getElem? (i := 553) (by decide +kernel), List.mem_of_getElem? (i := 554) (by decide +kernel)⟩
theorem lw_p39 : lw_okq (⟨"KnivesGround$Ground", "sharpen", "(I)V"⟩, 9) := ⟨⟨by decide +kernel, by decide +kernel⟩, List.mem_of_getElem? (i := 55) (by decide +kernel), List.mem_of_getElem? (i := 558) (by decide +kernel), List.mem_of_getElem? (i := 559) (by decide +kernel)⟩
theorem lw_p40 : lw_okq (⟨"KnivesGround", "endsInThought", "(II)Z"⟩, 8) := ⟨⟨by decide +kernel, by decide +kernel⟩, List.mem_of_getElem? (i := 14) (by decide +kernel), List.mem_of_getElem? (i := 562) (by decide +kernel), List.mem_of_getElem? (i := 563) (by decide +kernel)⟩
theorem lw_p41 : lw_okq (⟨"KnivesGround", "thinkDaysWithHarm", "(I)V"⟩, 8) := ⟨⟨by decide +kernel, by decide +kernel⟩, List.mem_of_getElem? (i := 14) (by decide +kernel), List.mem_of_getElem? (i := 570) (by decide +kernel), List.mem_of_getElem? (i := 571) (by decide +kernel)⟩
theorem lw_p42 : lw_okq (⟨"KnivesGround$Sheet", "isMissing", "()Z"⟩, 3) := ⟨⟨by decide +kernel, by decide +kernel⟩, List.mem_of_getElem? (i := 227) (by decide +kernel), List.mem_of_getElem? (i := 581) (by decide +kernel), List.mem_of_getElem? (i := 582) (by decide +kernel)⟩
theorem lw_p43 : lw_okq (⟨"KnivesGround$Ground", "hasEdges", "(LKnivesGround$Sheet;)Z"⟩, 9) := ⟨⟨by decide +kernel, by decide +kernel⟩, List.mem_of_getElem? (i := 55) (by decide +kernel), List.mem_of_getElem? (i := 585) (by decide +kernel), List.mem_of_getElem? (i := 586) (by decide +kernel)⟩
theorem lw_p44 : lw_okq (⟨"KnivesGround$Ground", "setHangingOn", "(I)I"⟩, 9) := ⟨⟨by decide +kernel, by decide +kernel⟩, List.mem_of_getElem? (i := 55) (by decide +kernel), List.mem_of_getElem? (i := 609) (by decide +kernel), List.mem_of_getElem? (i := 610) (by decide +kernel)⟩
theorem lw_p45 : lw_okq (⟨"KnivesGround$Ground", "setFree", "()I"⟩, 9) := ⟨⟨by decide +kernel, by decide +kernel⟩, List.mem_of_getElem? (i := 55) (by decide +kernel), List.mem_of_getElem? (i := 621) (by decide +kernel), List.mem_of_getElem? (i := 622) (by decide +kernel)⟩
theorem lw_p46 : lw_okq (⟨"KnivesGround$Voices", "beginWith", "(III)V"⟩, 5) := ⟨⟨by decide +kernel, by decide +kernel⟩, List.mem_of_getElem? (i := 202) (by decide +kernel), List.mem_of_getElem? (i := 640) (by decide +kernel), List.mem_of_getElem? (i := 641) (by decide +kernel)⟩
theorem lw_p47 : lw_okq (⟨"KnivesGround$Voices", "say", "(II)I"⟩, 5) := ⟨⟨by decide +kernel, by decide +kernel⟩, List.mem_of_getElem? (i := 202) (by decide +kernel), List.mem_of_getElem? (i := 644) (by decide +kernel), List.mem_of_getElem? (i := 645) (by decide +kernel)⟩
def lw_privs_3 : List (MethodName × Nat) := [(⟨"KnivesGround$Ground", "setEnded", "()I"⟩, 9), (⟨"KnivesGround$Whole", "draw", "()I"⟩, 8), (⟨"KnivesGround", "think", "()V"⟩, 8), (⟨"KnivesGround$Ground", "copyFrom", "(LKnivesGround$Ground;)V"⟩, 9), (⟨"KnivesGround$One", "copyFrom", "(LKnivesGround$One;)V"⟩, 7), (⟨"KnivesGround", "thinkDays", "(I)V"⟩, 8), (⟨"KnivesGround$Ground", "setItHangsOn", "(I)I"⟩, 9), (⟨"KnivesGround$Ground", "sharpen", "(I)V"⟩, 9), (⟨"KnivesGround", "endsInThought", "(II)Z"⟩, 8), (⟨"KnivesGround", "thinkDaysWithHarm", "(I)V"⟩, 8), (⟨"KnivesGround$Sheet", "isMissing", "()Z"⟩, 3), (⟨"KnivesGround$Ground", "hasEdges", "(LKnivesGround$Sheet;)Z"⟩, 9), (⟨"KnivesGround$Ground", "setHangingOn", "(I)I"⟩, 9), (⟨"KnivesGround$Ground", "setFree", "()I"⟩, 9), (⟨"KnivesGround$Voices", "beginWith", "(III)V"⟩, 5), (⟨"KnivesGround$Voices", "say", "(II)I"⟩, 5)]
theorem lw_r3 : ∀ q ∈ lw_privs_3, lw_okq q := List.forall_mem_cons.mpr ⟨lw_p32, List.forall_mem_cons.mpr ⟨lw_p33, List.forall_mem_cons.mpr ⟨lw_p34, List.forall_mem_cons.mpr ⟨lw_p35, List.forall_mem_cons.mpr ⟨lw_p36, List.forall_mem_cons.mpr ⟨lw_p37, List.forall_mem_cons.mpr ⟨lw_p38, List.forall_mem_cons.mpr ⟨lw_p39, List.forall_mem_cons.mpr ⟨lw_p40, List.forall_mem_cons.mpr ⟨lw_p41, List.forall_mem_cons.mpr ⟨lw_p42, List.forall_mem_cons.mpr ⟨lw_p43, List.forall_mem_cons.mpr ⟨lw_p44, List.forall_mem_cons.mpr ⟨lw_p45, List.forall_mem_cons.mpr ⟨lw_p46, List.forall_mem_cons.mpr ⟨lw_p47, fun _ h => absurd h List.not_mem_nil⟩⟩⟩⟩⟩⟩⟩⟩⟩⟩⟩⟩⟩⟩⟩⟩
theorem lw_p48 : lw_okq (⟨"KnivesGround$Voices", "sayGrinds", "(II)I"⟩, 5) := ⟨⟨by decide +kernel, by decide +kernel⟩, List.mem_of_getElem? (i := 202) (by decide +kernel), List.mem_of_getElem? (i := 648) (by decide +kernel), List.mem_of_getElem? (i := 649) (by decide +kernel)⟩
theorem lw_p49 : lw_okq (⟨"KnivesGround$Voices", "begin", "(I)V"⟩, 5) := ⟨⟨by decide +kernel, by decide +kernel⟩, List.mem_of_getElem? (i := 202) (by decide +kernel), List.mem_of_getElem? (i := 652) (by decide +kernel), List.mem_of_getElem? (i := 653) (by decide +kernel)⟩
theorem lw_p50 : lw_okq (⟨"KnivesGround$Voices", "sayCuts", "(II)I"⟩, 5) := ⟨⟨by decide +kernel, by decide +kernel⟩, List.mem_of_getElem? (i := 202) (by decide +kernel), List.mem_of_getElem? (i := 656) (by decide +kernel), List.mem_of_getElem? (i := 657) (by decide +kernel)⟩
theorem lw_p51 : lw_okq (⟨"KnivesGround$Voices", "saySparks", "(II)I"⟩, 5) := ⟨⟨by decide +kernel, by decide +kernel⟩, List.mem_of_getElem? (i := 202) (by decide +kernel), List.mem_of_getElem? (i := 660) (by decide +kernel), List.mem_of_getElem? (i := 661) (by decide +kernel)⟩
theorem lw_p52 : lw_okq (⟨"KnivesGround$Voices", "sayTells", "(II)I"⟩, 5) := ⟨⟨by decide +kernel, by decide +kernel⟩, List.mem_of_getElem? (i := 202) (by decide +kernel), List.mem_of_getElem? (i := 664) (by decide +kernel), List.mem_of_getElem? (i := 665) (by decide +kernel)⟩
theorem lw_p53 : lw_okq (⟨"KnivesGround$Sheet", "lay", "(II)V"⟩, 3) := ⟨⟨by decide +kernel, by decide +kernel⟩, List.mem_of_getElem? (i := 227) (by decide +kernel), List.mem_of_getElem? (i := 676) (by decide +kernel), List.mem_of_getElem? (i := 677) (by decide +kernel)⟩
theorem lw_p54 : lw_okq (⟨"KnivesGround$Sheet", "write", "(II)V"⟩, 3) := ⟨⟨by decide +kernel, by decide +kernel⟩, List.mem_of_getElem? (i := 227) (by decide +kernel), List.mem_of_getElem? (i := 684) (by decide +kernel), List.mem_of_getElem? (i := 685) (by decide +kernel)⟩
theorem lw_p55 : lw_okq (⟨"KnivesGround$Sheet", "hasNumbers", "(II)Z"⟩, 3) := ⟨⟨by decide +kernel, by decide +kernel⟩, List.mem_of_getElem? (i := 227) (by decide +kernel), List.mem_of_getElem? (i := 692) (by decide +kernel), List.mem_of_getElem? (i := 693) (by decide +kernel)⟩
theorem lw_p56 : lw_okq (⟨"KnivesGround$Whole", "copyFrom", "(LKnivesGround$Whole;)V"⟩, 8) := ⟨⟨by decide +kernel, by decide +kernel⟩, List.mem_of_getElem? (i := 22) (by decide +kernel), List.mem_of_getElem? (i := 710) (by decide +kernel), List.mem_of_getElem? (i := 711) (by decide +kernel)⟩
theorem lw_p57 : lw_okq (⟨"KnivesGround$Ground", "edgesTogether", "()I"⟩, 9) := ⟨⟨by decide +kernel, by decide +kernel⟩, List.mem_of_getElem? (i := 55) (by decide +kernel), List.mem_of_getElem? (i := 733) (by decide +kernel), List.mem_of_getElem? (i := 734) (by decide +kernel)⟩
theorem lw_p58 : lw_okq (⟨"KnivesGroundModel", "becomes", "(II)I"⟩, 24) := ⟨⟨by decide +kernel, by decide +kernel⟩, List.mem_of_getElem? (i := 741) (by decide +kernel), List.mem_of_getElem? (i := 831) (by decide +kernel), List.mem_of_getElem? (i := 832) (by decide +kernel)⟩
theorem lw_p59 : lw_okq (⟨"KnivesGroundModel", "errs", "(I)I"⟩, 24) := ⟨⟨by decide +kernel, by decide +kernel⟩, List.mem_of_getElem? (i := 741) (by decide +kernel), List.mem_of_getElem? (i := 836) (by decide +kernel), List.mem_of_getElem? (i := 837) (by decide +kernel)⟩
theorem lw_p60 : lw_okq (⟨"KnivesGroundModel", "its", "(II)I"⟩, 24) := ⟨⟨by decide +kernel, by decide +kernel⟩, List.mem_of_getElem? (i := 741) (by decide +kernel), List.mem_of_getElem? (i := 845) (by decide +kernel), List.mem_of_getElem? (i := 846) (by decide +kernel)⟩
theorem lw_p61 : lw_okq (⟨"KnivesGroundModel", "gets", "(III)V"⟩, 24) := ⟨⟨by decide +kernel, by decide +kernel⟩, List.mem_of_getElem? (i := 741) (by decide +kernel), List.mem_of_getElem? (i := 854) (by decide +kernel), List.mem_of_getElem? (i := 855) (by decide +kernel)⟩
theorem lw_p62 : lw_okq (⟨"KnivesGroundModel", "isQuarrel", "(I)Z"⟩, 24) := ⟨⟨by decide +kernel, by decide +kernel⟩, List.mem_of_getElem? (i := 741) (by decide +kernel), List.mem_of_getElem? (i := 862) (by decide +kernel), List.mem_of_getElem? (i := 863) (by decide +kernel)⟩
theorem lw_p63 : lw_okq (⟨"KnivesGroundModel", "gains", "(I)I"⟩, 24) := ⟨⟨by decide +kernel, by decide +kernel⟩, List.mem_of_getElem? (i := 741) (by decide +kernel), List.mem_of_getElem? (i := 866) (by decide +kernel), List.mem_of_getElem? (i := 867) (by decide +kernel)⟩
def lw_privs_4 : List (MethodName × Nat) := [(⟨"KnivesGround$Voices", "sayGrinds", "(II)I"⟩, 5), (⟨"KnivesGround$Voices", "begin", "(I)V"⟩, 5), (⟨"KnivesGround$Voices", "sayCuts", "(II)I"⟩, 5), (⟨"KnivesGround$Voices", "saySparks", "(II)I"⟩, 5), (⟨"KnivesGround$Voices", "sayTells", "(II)I"⟩, 5), (⟨"KnivesGround$Sheet", "lay", "(II)V"⟩, 3), (⟨"KnivesGround$Sheet", "write", "(II)V"⟩, 3), (⟨"KnivesGround$Sheet", "hasNumbers", "(II)Z"⟩, 3), (⟨"KnivesGround$Whole", "copyFrom", "(LKnivesGround$Whole;)V"⟩, 8), (⟨"KnivesGround$Ground", "edgesTogether", "()I"⟩, 9), (⟨"KnivesGroundModel", "becomes", "(II)I"⟩, 24), (⟨"KnivesGroundModel", "errs", "(I)I"⟩, 24), (⟨"KnivesGroundModel", "its", "(II)I"⟩, 24), (⟨"KnivesGroundModel", "gets", "(III)V"⟩, 24), (⟨"KnivesGroundModel", "isQuarrel", "(I)Z"⟩, 24), (⟨"KnivesGroundModel", "gains", "(I)I"⟩, 24)]
theorem lw_r4 : ∀ q ∈ lw_privs_4, lw_okq q := List.forall_mem_cons.mpr ⟨lw_p48, List.forall_mem_cons.mpr ⟨lw_p49, List.forall_mem_cons.mpr ⟨lw_p50, List.forall_mem_cons.mpr ⟨lw_p51, List.forall_mem_cons.mpr ⟨lw_p52, List.forall_mem_cons.mpr ⟨lw_p53, List.forall_mem_cons.mpr ⟨lw_p54, List.forall_mem_cons.mpr ⟨lw_p55, List.forall_mem_cons.mpr ⟨lw_p56, List.forall_mem_cons.mpr ⟨lw_p57, List.forall_mem_cons.mpr ⟨lw_p58, List.forall_mem_cons.mpr ⟨lw_p59, List.forall_mem_cons.mpr ⟨lw_p60, List.forall_mem_cons.mpr ⟨lw_p61, List.forall_mem_cons.mpr ⟨lw_p62, List.forall_mem_cons.mpr ⟨lw_p63, fun _ h => absurd h List.not_mem_nil⟩⟩⟩⟩⟩⟩⟩⟩⟩⟩⟩⟩⟩⟩⟩⟩
theorem lw_p64 : lw_okq (⟨"KnivesGroundModel", "lawOf", "(IIII)I"⟩, 24) := ⟨⟨by decide +kernel, by decide +kernel⟩, List.mem_of_getElem? (i := 741) (by decide +kernel), List.mem_of_getElem? (i := 870) (by decide +kernel), List.mem_of_getElem? (i := 871) (by decide +kernel)⟩
theorem lw_p65 : lw_okq (⟨"KnivesGroundModel", "walks", "(IIII)I"⟩, 24) := ⟨⟨by decide +kernel, by decide +kernel⟩, List.mem_of_getElem? (i := 741) (by decide +kernel), List.mem_of_getElem? (i := 874) (by decide +kernel), List.mem_of_getElem? (i := 875) (by decide +kernel)⟩
theorem lw_p66 : lw_okq (⟨"KnivesGroundModel", "needs", "(I)I"⟩, 24) := ⟨⟨by decide +kernel, by decide +kernel⟩, List.mem_of_getElem? (i := 741) (by decide +kernel), List.mem_of_getElem? (i := 884) (by decide +kernel), List.mem_of_getElem? (i := 885) (by decide +kernel)⟩
theorem lw_p67 : lw_okq (⟨"KnivesGroundModel", "dulls", "(I)I"⟩, 24) := ⟨⟨by decide +kernel, by decide +kernel⟩, List.mem_of_getElem? (i := 741) (by decide +kernel), List.mem_of_getElem? (i := 888) (by decide +kernel), List.mem_of_getElem? (i := 889) (by decide +kernel)⟩
theorem lw_p68 : lw_okq (⟨"KnivesGroundModel", "whole", "()V"⟩, 24) := ⟨⟨by decide +kernel, by decide +kernel⟩, List.mem_of_getElem? (i := 741) (by decide +kernel), List.mem_of_getElem? (i := 921) (by decide +kernel), List.mem_of_getElem? (i := 922) (by decide +kernel)⟩
theorem lw_p69 : lw_okq (⟨"KnivesGroundModel", "both", "()V"⟩, 24) := ⟨⟨by decide +kernel, by decide +kernel⟩, List.mem_of_getElem? (i := 741) (by decide +kernel), List.mem_of_getElem? (i := 925) (by decide +kernel), List.mem_of_getElem? (i := 926) (by decide +kernel)⟩
theorem lw_p70 : lw_okq (⟨"KnivesGroundModel", "compared", "()V"⟩, 24) := ⟨⟨by decide +kernel, by decide +kernel⟩, List.mem_of_getElem? (i := 741) (by decide +kernel), List.mem_of_getElem? (i := 929) (by decide +kernel), List.mem_of_getElem? (i := 930) (by decide +kernel)⟩
theorem lw_p71 : lw_okq (⟨"KnivesGroundModel", "sum", "()V"⟩, 24) := ⟨⟨by decide +kernel, by decide +kernel⟩, List.mem_of_getElem? (i := 741) (by decide +kernel), List.mem_of_getElem? (i := 933) (by decide +kernel), List.mem_of_getElem? (i := 934) (by decide +kernel)⟩
theorem lw_p72 : lw_okq (⟨"KnivesGroundModel", "product", "()V"⟩, 24) := ⟨⟨by decide +kernel, by decide +kernel⟩, List.mem_of_getElem? (i := 741) (by decide +kernel), List.mem_of_getElem? (i := 937) (by decide +kernel), List.mem_of_getElem? (i := 938) (by decide +kernel)⟩
theorem lw_p73 : lw_okq (⟨"KnivesGroundModel", "factor", "()V"⟩, 24) := ⟨⟨by decide +kernel, by decide +kernel⟩, List.mem_of_getElem? (i := 741) (by decide +kernel), List.mem_of_getElem? (i := 941) (by decide +kernel), List.mem_of_getElem? (i := 942) (by decide +kernel)⟩
theorem lw_p74 : lw_okq (⟨"KnivesGroundModel", "byteAt", "(I)I"⟩, 24) := ⟨⟨by decide +kernel, by decide +kernel⟩, List.mem_of_getElem? (i := 741) (by decide +kernel), List.mem_of_getElem? (i := 945) (by decide +kernel), List.mem_of_getElem? (i := 946) (by decide +kernel)⟩
theorem lw_p75 : lw_okq (⟨"KnivesGroundModel", "number", "()V"⟩, 24) := ⟨⟨by decide +kernel, by decide +kernel⟩, List.mem_of_getElem? (i := 741) (by decide +kernel), List.mem_of_getElem? (i := 952) (by decide +kernel), List.mem_of_getElem? (i := 953) (by decide +kernel)⟩
theorem lw_p76 : lw_okq (⟨"KnivesGroundModel", "adds", "(I)V"⟩, 24) := ⟨⟨by decide +kernel, by decide +kernel⟩, List.mem_of_getElem? (i := 741) (by decide +kernel), List.mem_of_getElem? (i := 956) (by decide +kernel), List.mem_of_getElem? (i := 957) (by decide +kernel)⟩
theorem lw_p77 : lw_okq (⟨"KnivesGroundModel", "named", "(I)V"⟩, 24) := ⟨⟨by decide +kernel, by decide +kernel⟩, List.mem_of_getElem? (i := 741) (by decide +kernel), List.mem_of_getElem? (i := 960) (by decide +kernel), List.mem_of_getElem? (i := 961) (by decide +kernel)⟩
theorem lw_p78 : lw_okq (⟨"KnivesGroundModel", "passes", "(I)V"⟩, 24) := ⟨⟨by decide +kernel, by decide +kernel⟩, List.mem_of_getElem? (i := 741) (by decide +kernel), List.mem_of_getElem? (i := 969) (by decide +kernel), List.mem_of_getElem? (i := 970) (by decide +kernel)⟩
theorem lw_p79 : lw_okq (⟨"KnivesGroundModel", "oneDay", "(Z)V"⟩, 24) := ⟨⟨by decide +kernel, by decide +kernel⟩, List.mem_of_getElem? (i := 741) (by decide +kernel), List.mem_of_getElem? (i := 973) (by decide +kernel), List.mem_of_getElem? (i := 974) (by decide +kernel)⟩
def lw_privs_5 : List (MethodName × Nat) := [(⟨"KnivesGroundModel", "lawOf", "(IIII)I"⟩, 24), (⟨"KnivesGroundModel", "walks", "(IIII)I"⟩, 24), (⟨"KnivesGroundModel", "needs", "(I)I"⟩, 24), (⟨"KnivesGroundModel", "dulls", "(I)I"⟩, 24), (⟨"KnivesGroundModel", "whole", "()V"⟩, 24), (⟨"KnivesGroundModel", "both", "()V"⟩, 24), (⟨"KnivesGroundModel", "compared", "()V"⟩, 24), (⟨"KnivesGroundModel", "sum", "()V"⟩, 24), (⟨"KnivesGroundModel", "product", "()V"⟩, 24), (⟨"KnivesGroundModel", "factor", "()V"⟩, 24), (⟨"KnivesGroundModel", "byteAt", "(I)I"⟩, 24), (⟨"KnivesGroundModel", "number", "()V"⟩, 24), (⟨"KnivesGroundModel", "adds", "(I)V"⟩, 24), (⟨"KnivesGroundModel", "named", "(I)V"⟩, 24), (⟨"KnivesGroundModel", "passes", "(I)V"⟩, 24), (⟨"KnivesGroundModel", "oneDay", "(Z)V"⟩, 24)]
theorem lw_r5 : ∀ q ∈ lw_privs_5, lw_okq q := List.forall_mem_cons.mpr ⟨lw_p64, List.forall_mem_cons.mpr ⟨lw_p65, List.forall_mem_cons.mpr ⟨lw_p66, List.forall_mem_cons.mpr ⟨lw_p67, List.forall_mem_cons.mpr ⟨lw_p68, List.forall_mem_cons.mpr ⟨lw_p69, List.forall_mem_cons.mpr ⟨lw_p70, List.forall_mem_cons.mpr ⟨lw_p71, List.forall_mem_cons.mpr ⟨lw_p72, List.forall_mem_cons.mpr ⟨lw_p73, List.forall_mem_cons.mpr ⟨lw_p74, List.forall_mem_cons.mpr ⟨lw_p75, List.forall_mem_cons.mpr ⟨lw_p76, List.forall_mem_cons.mpr ⟨lw_p77, List.forall_mem_cons.mpr ⟨lw_p78, List.forall_mem_cons.mpr ⟨lw_p79, fun _ h => absurd h List.not_mem_nil⟩⟩⟩⟩⟩⟩⟩⟩⟩⟩⟩⟩⟩⟩⟩⟩
theorem lw_p80 : lw_okq (⟨"KnivesGroundModel", "grindsAll", "()V"⟩, 24) := ⟨⟨by decide +kernel, by decide +kernel⟩, List.mem_of_getElem? (i := 741) (by decide +kernel), List.mem_of_getElem? (i := 977) (by decide +kernel), List.mem_of_getElem? (i := 978) (by decide +kernel)⟩
theorem lw_p81 : lw_okq (⟨"KnivesGroundModel", "isOver", "(I)Z"⟩, 24) := ⟨⟨by decide +kernel, by decide +kernel⟩, List.mem_of_getElem? (i := 741) (by decide +kernel), List.mem_of_getElem? (i := 981) (by decide +kernel), List.mem_of_getElem? (i := 982) (by decide +kernel)⟩
theorem lw_p82 : lw_okq (⟨"KnivesGroundModel", "goesOn", "(I)V"⟩, 24) := ⟨⟨by decide +kernel, by decide +kernel⟩, List.mem_of_getElem? (i := 741) (by decide +kernel), List.mem_of_getElem? (i := 985) (by decide +kernel), List.mem_of_getElem? (i := 986) (by decide +kernel)⟩
theorem lw_p83 : lw_okq (⟨"KnivesGroundModel", "isLoose", "(I)Z"⟩, 24) := ⟨⟨by decide +kernel, by decide +kernel⟩, List.mem_of_getElem? (i := 741) (by decide +kernel), List.mem_of_getElem? (i := 989) (by decide +kernel), List.mem_of_getElem? (i := 990) (by decide +kernel)⟩
theorem lw_p84 : lw_okq (⟨"KnivesGroundModel", "overSet", "()I"⟩, 24) := ⟨⟨by decide +kernel, by decide +kernel⟩, List.mem_of_getElem? (i := 741) (by decide +kernel), List.mem_of_getElem? (i := 993) (by decide +kernel), List.mem_of_getElem? (i := 994) (by decide +kernel)⟩
theorem lw_p85 : lw_okq (⟨"KnivesGroundModel", "drawn", "(I)I"⟩, 24) := ⟨⟨by decide +kernel, by decide +kernel⟩, List.mem_of_getElem? (i := 741) (by decide +kernel), List.mem_of_getElem? (i := 1004) (by decide +kernel), List.mem_of_getElem? (i := 1005) (by decide +kernel)⟩
theorem lw_p86 : lw_okq (⟨"KnivesGroundModel", "moveAll", "([I[I)V"⟩, 24) := ⟨⟨by decide +kernel, by decide +kernel⟩, List.mem_of_getElem? (i := 741) (by decide +kernel), List.mem_of_getElem? (i := 1013) (by decide +kernel), List.mem_of_getElem? (i := 1014) (by decide +kernel)⟩
theorem lw_p87 : lw_okq (⟨"KnivesGroundModel", "overBehind", "(I)I"⟩, 24) := ⟨⟨by decide +kernel, by decide +kernel⟩, List.mem_of_getElem? (i := 741) (by decide +kernel), List.mem_of_getElem? (i := 1026) (by decide +kernel), List.mem_of_getElem? (i := 1027) (by decide +kernel)⟩
theorem lw_p88 : lw_okq (⟨"KnivesGroundModel", "mostOver", "(III)I"⟩, 24) := ⟨⟨by decide +kernel, by decide +kernel⟩, List.mem_of_getElem? (i := 741) (by decide +kernel), List.mem_of_getElem? (i := 1034) (by decide +kernel), List.mem_of_getElem? (i := 1035) (by decide +kernel)⟩
theorem lw_p89 : lw_okq (⟨"KnivesGroundModel", "isOverBy", "(III)Z"⟩, 24) := ⟨⟨by decide +kernel, by decide +kernel⟩, List.mem_of_getElem? (i := 741) (by decide +kernel), List.mem_of_getElem? (i := 1046) (by decide +kernel), List.mem_of_getElem? (i := 1047) (by decide +kernel)⟩
theorem lw_p90 : lw_okq (⟨"KnivesGroundModel", "areEdgesSo", "(I)Z"⟩, 24) := ⟨⟨by decide +kernel, by decide +kernel⟩, List.mem_of_getElem? (i := 741) (by decide +kernel), List.mem_of_getElem? (i := 1062) (by decide +kernel), List.mem_of_getElem? (i := 1063) (by decide +kernel)⟩
theorem lw_p91 : lw_okq (⟨"KnivesGroundModel", "grindsIn", "(II)I"⟩, 24) := ⟨⟨by decide +kernel, by decide +kernel⟩, List.mem_of_getElem? (i := 741) (by decide +kernel), List.mem_of_getElem? (i := 1105) (by decide +kernel), List.mem_of_getElem? (i := 1106) (by decide +kernel)⟩
theorem lw_p92 : lw_okq (⟨"KnivesGroundModel", "ran", "(I)V"⟩, 24) := ⟨⟨by decide +kernel, by decide +kernel⟩, List.mem_of_getElem? (i := 741) (by decide +kernel), List.mem_of_getElem? (i := 1109) (by decide +kernel), List.mem_of_getElem? (i := 1110) (by decide +kernel)⟩
theorem lw_p93 : lw_okq (⟨"KnivesGroundModel", "cutsIn", "(II)I"⟩, 24) := ⟨⟨by decide +kernel, by decide +kernel⟩, List.mem_of_getElem? (i := 741) (by decide +kernel), List.mem_of_getElem? (i := 1113) (by decide +kernel), List.mem_of_getElem? (i := 1114) (by decide +kernel)⟩
theorem lw_p94 : lw_okq (⟨"KnivesGroundModel", "sparksIn", "(II)I"⟩, 24) := ⟨⟨by decide +kernel, by decide +kernel⟩, List.mem_of_getElem? (i := 741) (by decide +kernel), List.mem_of_getElem? (i := 1117) (by decide +kernel), List.mem_of_getElem? (i := 1118) (by decide +kernel)⟩
theorem lw_p95 : lw_okq (⟨"KnivesGroundModel", "tellsIn", "(II)I"⟩, 24) := ⟨⟨by decide +kernel, by decide +kernel⟩, List.mem_of_getElem? (i := 741) (by decide +kernel), List.mem_of_getElem? (i := 1121) (by decide +kernel), List.mem_of_getElem? (i := 1122) (by decide +kernel)⟩
def lw_privs_6 : List (MethodName × Nat) := [(⟨"KnivesGroundModel", "grindsAll", "()V"⟩, 24), (⟨"KnivesGroundModel", "isOver", "(I)Z"⟩, 24), (⟨"KnivesGroundModel", "goesOn", "(I)V"⟩, 24), (⟨"KnivesGroundModel", "isLoose", "(I)Z"⟩, 24), (⟨"KnivesGroundModel", "overSet", "()I"⟩, 24), (⟨"KnivesGroundModel", "drawn", "(I)I"⟩, 24), (⟨"KnivesGroundModel", "moveAll", "([I[I)V"⟩, 24), (⟨"KnivesGroundModel", "overBehind", "(I)I"⟩, 24), (⟨"KnivesGroundModel", "mostOver", "(III)I"⟩, 24), (⟨"KnivesGroundModel", "isOverBy", "(III)Z"⟩, 24), (⟨"KnivesGroundModel", "areEdgesSo", "(I)Z"⟩, 24), (⟨"KnivesGroundModel", "grindsIn", "(II)I"⟩, 24), (⟨"KnivesGroundModel", "ran", "(I)V"⟩, 24), (⟨"KnivesGroundModel", "cutsIn", "(II)I"⟩, 24), (⟨"KnivesGroundModel", "sparksIn", "(II)I"⟩, 24), (⟨"KnivesGroundModel", "tellsIn", "(II)I"⟩, 24)]
theorem lw_r6 : ∀ q ∈ lw_privs_6, lw_okq q := List.forall_mem_cons.mpr ⟨lw_p80, List.forall_mem_cons.mpr ⟨lw_p81, List.forall_mem_cons.mpr ⟨lw_p82, List.forall_mem_cons.mpr ⟨lw_p83, List.forall_mem_cons.mpr ⟨lw_p84, List.forall_mem_cons.mpr ⟨lw_p85, List.forall_mem_cons.mpr ⟨lw_p86, List.forall_mem_cons.mpr ⟨lw_p87, List.forall_mem_cons.mpr ⟨lw_p88, List.forall_mem_cons.mpr ⟨lw_p89, List.forall_mem_cons.mpr ⟨lw_p90, List.forall_mem_cons.mpr ⟨lw_p91, List.forall_mem_cons.mpr ⟨lw_p92, List.forall_mem_cons.mpr ⟨lw_p93, List.forall_mem_cons.mpr ⟨lw_p94, List.forall_mem_cons.mpr ⟨lw_p95, fun _ h => absurd h List.not_mem_nil⟩⟩⟩⟩⟩⟩⟩⟩⟩⟩⟩⟩⟩⟩⟩⟩
theorem lw_p96 : lw_okq (⟨"KnivesGroundModel", "edgesOfAll", "()I"⟩, 24) := ⟨⟨by decide +kernel, by decide +kernel⟩, List.mem_of_getElem? (i := 741) (by decide +kernel), List.mem_of_getElem? (i := 1172) (by decide +kernel), List.mem_of_getElem? (i := 1173) (by decide +kernel)⟩
def lw_privs_7 : List (MethodName × Nat) := [(⟨"KnivesGroundModel", "edgesOfAll", "()I"⟩, 24)]
theorem lw_r7 : ∀ q ∈ lw_privs_7, lw_okq q := List.forall_mem_cons.mpr ⟨lw_p96, fun _ h => absurd h List.not_mem_nil⟩
def lw_privs : List (MethodName × Nat) := lw_privs_1 ++ (lw_privs_2 ++ (lw_privs_3 ++ (lw_privs_4 ++ (lw_privs_5 ++ (lw_privs_6 ++ (lw_privs_7))))))
def lw_tbl : List Cond := k2_sels lw_privs ++ tables_1
theorem lw_privs_ok : ∀ q ∈ lw_privs, lw_okq q := by
  show ∀ q ∈ lw_privs_1 ++ (lw_privs_2 ++ (lw_privs_3 ++ (lw_privs_4 ++ (lw_privs_5 ++ (lw_privs_6 ++ (lw_privs_7)))))), lw_okq q
  exact List.forall_mem_append.mpr ⟨lw_r1, List.forall_mem_append.mpr ⟨lw_r2, List.forall_mem_append.mpr ⟨lw_r3, List.forall_mem_append.mpr ⟨lw_r4, List.forall_mem_append.mpr ⟨lw_r5, List.forall_mem_append.mpr ⟨lw_r6, lw_r7⟩⟩⟩⟩⟩⟩
-- ===== end of PART A; then your names; then what follows =====
/-! ===== BEGIN words of one list among another's, by their places ===== -/
theorem goodIn_r {big : List Cond} (ws : List Cond) (ps : List Nat) (hp : ws = ps.filterMap (fun i => big[i]?)) (h : ws.all goodWord = true) : GoodIn big ws := by
  intro w hw
  have h1 := List.all_eq_true.mp h w hw
  rw [hp] at hw
  obtain ⟨i, -, hi⟩ := List.mem_filterMap.mp hw
  have hm : w ∈ big := by first | exact List.mem_of_getElem? hi | exact List.getElem?_mem hi
  exact ⟨hm, good_of_word h1⟩
theorem goodIn_app {big a b : List Cond} (ha : GoodIn big a) (hb : GoodIn big b) : GoodIn big (a ++ b) := fun w h => (List.mem_append.mp h).elim (ha w) (hb w)
theorem goodIn_ca {big a b : List Cond} {c : Cond} (ha : GoodIn big (c :: a)) (hb : GoodIn big b) : GoodIn big (c :: (a ++ b)) := fun w h => (List.mem_cons.mp h).elim (fun e => ha w (List.mem_cons.mpr (Or.inl e))) (fun h => (List.mem_append.mp h).elim (fun h => ha w (List.mem_cons.mpr (Or.inr h))) (hb w))
theorem goodIn_sub {big ws : List Cond} (hm : ∀ w ∈ ws, w ∈ big) (h : ws.all goodWord = true) : GoodIn big ws := fun w hw => ⟨hm w hw, good_of_word (List.all_eq_true.mp h w hw)⟩
/-! ===== END ===== -/

/-! ===== BEGIN printed: names, fields, word lists, decode rows ===== -/
def RX0 : String := "KnivesGround$Ground"
def TX0 : u_T := fun k => match k with
  | 0 => ("KnivesGround$Ground", "grinds", "LKnivesGround$Text;", true)
  | 1 => ("KnivesGround$Ground", "harms", "LKnivesGround$Text;", true)
  | 2 => ("KnivesGround$Ground", "ones", "[LKnivesGround$One;", true)
  | 3 => ("KnivesGround$Ground", "many", "I", false)
  | 4 => ("KnivesGround$Ground", "grinder", "I", false)
  | 5 => ("KnivesGround$Ground", "step", "I", false)
  | 6 => ("KnivesGround$Ground", "day", "I", false)
  | 7 => ("KnivesGround$Ground", "harm", "I", false)
  | _ => ("KnivesGround$Ground", "pence", "I", false)
def tyX0 : Nat → FieldType := fun k => match k with
  | 0 => .object "KnivesGround$Text"
  | 1 => .object "KnivesGround$Text"
  | 2 => .array (.object "KnivesGround$One")
  | 3 => .int
  | 4 => .int
  | 5 => .int
  | 6 => .int
  | 7 => .int
  | _ => .int
abbrev wsX00 : List Cond := u_ws RX0 TX0 9
theorem nmX0 : ∀ a, a < 9 → ∀ b, b < 9 → a ≠ b → (TX0 a).2.1 ≠ (TX0 b).2.1 := by decide +kernel
theorem tyX0_ok : ∀ k, k < 9 → parseFieldDescriptor (TX0 k).2.2.1 = some (tyX0 k) := by decide +kernel
abbrev cX0_init : ByteArray := prog_2_method_1_code
def yX0_init : MethodName := ⟨RX0, "<init>", "(LKnivesGround$Text;LKnivesGround$Text;)V"⟩
abbrev cX0_copyFrom : ByteArray := prog_2_method_2_code
def yX0_copyFrom : MethodName := ⟨RX0, "copyFrom", "(LKnivesGround$Ground;)V"⟩
abbrev cX0_setGrinder : ByteArray := prog_2_method_3_code
def yX0_setGrinder : MethodName := ⟨RX0, "setGrinder", "(II)I"⟩
abbrev cX0_passDay : ByteArray := prog_2_method_4_code
def yX0_passDay : MethodName := ⟨RX0, "passDay", "(Z)V"⟩
abbrev cX0_restDay : ByteArray := prog_2_method_5_code
def yX0_restDay : MethodName := ⟨RX0, "restDay", "(Z)V"⟩
abbrev cX0_grindArea : ByteArray := prog_2_method_6_code
def yX0_grindArea : MethodName := ⟨RX0, "grindArea", "()V"⟩
abbrev cX0_endOrDull : ByteArray := prog_2_method_7_code
def yX0_endOrDull : MethodName := ⟨RX0, "endOrDull", "(Z)V"⟩
abbrev cX0_gainsOf : ByteArray := prog_2_method_8_code
def yX0_gainsOf : MethodName := ⟨RX0, "gainsOf", "(LKnivesGround$One;)I"⟩
abbrev cX0_isFree : ByteArray := prog_2_method_9_code
def yX0_isFree : MethodName := ⟨RX0, "isFree", "(LKnivesGround$One;)Z"⟩
abbrev cX0_sharpen : ByteArray := prog_2_method_10_code
def yX0_sharpen : MethodName := ⟨RX0, "sharpen", "(I)V"⟩
abbrev cX0_hasEdges : ByteArray := prog_2_method_11_code
def yX0_hasEdges : MethodName := ⟨RX0, "hasEdges", "(LKnivesGround$Sheet;)Z"⟩
abbrev cX0_edgesTogether : ByteArray := prog_2_method_12_code
def yX0_edgesTogether : MethodName := ⟨RX0, "edgesTogether", "()I"⟩
abbrev cX0_endedMany : ByteArray := prog_2_method_13_code
def yX0_endedMany : MethodName := ⟨RX0, "endedMany", "()I"⟩
abbrev cX0_setEnded : ByteArray := prog_2_method_14_code
def yX0_setEnded : MethodName := ⟨RX0, "setEnded", "()I"⟩
abbrev cX0_setInArea : ByteArray := prog_2_method_15_code
def yX0_setInArea : MethodName := ⟨RX0, "setInArea", "(I)I"⟩
abbrev cX0_setFree : ByteArray := prog_2_method_16_code
def yX0_setFree : MethodName := ⟨RX0, "setFree", "()I"⟩
abbrev cX0_setHangingOn : ByteArray := prog_2_method_17_code
def yX0_setHangingOn : MethodName := ⟨RX0, "setHangingOn", "(I)I"⟩
abbrev cX0_setItHangsOn : ByteArray := prog_2_method_18_code
def yX0_setItHangsOn : MethodName := ⟨RX0, "setItHangsOn", "(I)I"⟩
def RX1 : String := "KnivesGround$One"
def TX1 : u_T := fun k => match k with
  | 0 => ("KnivesGround$One", "kind", "I", false)
  | 1 => ("KnivesGround$One", "m", "I", false)
  | 2 => ("KnivesGround$One", "area", "I", false)
  | 3 => ("KnivesGround$One", "edge", "I", false)
  | 4 => ("KnivesGround$One", "on", "I", false)
  | 5 => ("KnivesGround$One", "age", "I", false)
  | _ => ("KnivesGround$One", "ended", "Z", false)
def tyX1 : Nat → FieldType := fun k => match k with
  | 0 => .int
  | 1 => .int
  | 2 => .int
  | 3 => .int
  | 4 => .int
  | 5 => .int
  | _ => .boolean
abbrev wsX10 : List Cond := u_ws RX1 TX1 7
theorem nmX1 : ∀ a, a < 7 → ∀ b, b < 7 → a ≠ b → (TX1 a).2.1 ≠ (TX1 b).2.1 := by decide +kernel
theorem tyX1_ok : ∀ k, k < 7 → parseFieldDescriptor (TX1 k).2.2.1 = some (tyX1 k) := by decide +kernel
abbrev cX1_init : ByteArray := prog_3_method_1_code
def yX1_init : MethodName := ⟨RX1, "<init>", "()V"⟩
abbrev cX1_turnInto : ByteArray := prog_3_method_2_code
def yX1_turnInto : MethodName := ⟨RX1, "turnInto", "(I)V"⟩
abbrev cX1_copyFrom : ByteArray := prog_3_method_3_code
def yX1_copyFrom : MethodName := ⟨RX1, "copyFrom", "(LKnivesGround$One;)V"⟩
abbrev cX1_changeTo : ByteArray := prog_3_method_4_code
def yX1_changeTo : MethodName := ⟨RX1, "changeTo", "(II)I"⟩
abbrev cX1_isOfKind : ByteArray := prog_3_method_5_code
def yX1_isOfKind : MethodName := ⟨RX1, "isOfKind", "(I)Z"⟩
abbrev cX1_gains : ByteArray := prog_3_method_6_code
def yX1_gains : MethodName := ⟨RX1, "gains", "(II)I"⟩
abbrev cX1_needs : ByteArray := prog_3_method_7_code
def yX1_needs : MethodName := ⟨RX1, "needs", "()I"⟩
abbrev cX1_dulls : ByteArray := prog_3_method_8_code
def yX1_dulls : MethodName := ⟨RX1, "dulls", "()I"⟩
def RX2 : String := "KnivesGround$Reader"
def TX2 : u_T := fun k => match k with
  | 0 => ("KnivesGround$Reader", "text", "LKnivesGround$Text;", true)
  | 1 => ("KnivesGround$Reader", "bytes", "[I", true)
  | 2 => ("KnivesGround$Reader", "many", "I", false)
  | 3 => ("KnivesGround$Reader", "place", "I", false)
  | _ => ("KnivesGround$Reader", "fault", "I", false)
def tyX2 : Nat → FieldType := fun k => match k with
  | 0 => .object "KnivesGround$Text"
  | 1 => .array .int
  | 2 => .int
  | 3 => .int
  | _ => .int
abbrev wsX20 : List Cond := u_ws RX2 TX2 5
theorem nmX2 : ∀ a, a < 5 → ∀ b, b < 5 → a ≠ b → (TX2 a).2.1 ≠ (TX2 b).2.1 := by decide +kernel
theorem tyX2_ok : ∀ k, k < 5 → parseFieldDescriptor (TX2 k).2.2.1 = some (tyX2 k) := by decide +kernel
abbrev cX2_init : ByteArray := prog_4_method_1_code
def yX2_init : MethodName := ⟨RX2, "<init>", "()V"⟩
abbrev cX2_read : ByteArray := prog_4_method_2_code
def yX2_read : MethodName := ⟨RX2, "read", "([III)I"⟩
abbrev cX2_readLevel : ByteArray := prog_4_method_3_code
def yX2_readLevel : MethodName := ⟨RX2, "readLevel", "(II)I"⟩
abbrev cX2_readInnermost : ByteArray := prog_4_method_4_code
def yX2_readInnermost : MethodName := ⟨RX2, "readInnermost", "(I)I"⟩
abbrev cX2_readNumber : ByteArray := prog_4_method_5_code
def yX2_readNumber : MethodName := ⟨RX2, "readNumber", "()I"⟩
abbrev cX2_readNot : ByteArray := prog_4_method_6_code
def yX2_readNot : MethodName := ⟨RX2, "readNot", "(I)I"⟩
abbrev cX2_readBrackets : ByteArray := prog_4_method_7_code
def yX2_readBrackets : MethodName := ⟨RX2, "readBrackets", "(I)I"⟩
abbrev cX2_stop : ByteArray := prog_4_method_8_code
def yX2_stop : MethodName := ⟨RX2, "stop", "()I"⟩
abbrev cX2_next : ByteArray := prog_4_method_9_code
def yX2_next : MethodName := ⟨RX2, "next", "()I"⟩
abbrev cX2_nameOf : ByteArray := prog_4_method_10_code
def yX2_nameOf : MethodName := ⟨RX2, "nameOf", "(I)I"⟩
abbrev cX2_isDigit : ByteArray := prog_4_method_11_code
def yX2_isDigit : MethodName := ⟨RX2, "isDigit", "(I)Z"⟩
abbrev cX2_levelOf : ByteArray := prog_4_method_12_code
def yX2_levelOf : MethodName := ⟨RX2, "levelOf", "(I)I"⟩
def RX3 : String := "KnivesGround$Sheet"
def TX3 : u_T := fun k => match k with
  | 0 => ("KnivesGround$Sheet", "numbers", "[I", true)
  | 1 => ("KnivesGround$Sheet", "bits", "I", false)
  | _ => ("KnivesGround$Sheet", "many", "I", false)
def tyX3 : Nat → FieldType := fun k => match k with
  | 0 => .array .int
  | 1 => .int
  | _ => .int
abbrev wsX30 : List Cond := u_ws RX3 TX3 3
theorem nmX3 : ∀ a, a < 3 → ∀ b, b < 3 → a ≠ b → (TX3 a).2.1 ≠ (TX3 b).2.1 := by decide +kernel
theorem tyX3_ok : ∀ k, k < 3 → parseFieldDescriptor (TX3 k).2.2.1 = some (tyX3 k) := by decide +kernel
abbrev cX3_init : ByteArray := prog_5_method_1_code
def yX3_init : MethodName := ⟨RX3, "<init>", "()V"⟩
abbrev cX3_isMissing : ByteArray := prog_5_method_2_code
def yX3_isMissing : MethodName := ⟨RX3, "isMissing", "()Z"⟩
abbrev cX3_lay : ByteArray := prog_5_method_3_code
def yX3_lay : MethodName := ⟨RX3, "lay", "(II)V"⟩
abbrev cX3_write : ByteArray := prog_5_method_4_code
def yX3_write : MethodName := ⟨RX3, "write", "(II)V"⟩
abbrev cX3_hasNumbers : ByteArray := prog_5_method_5_code
def yX3_hasNumbers : MethodName := ⟨RX3, "hasNumbers", "(II)Z"⟩
def RX4 : String := "KnivesGround$Text"
def TX4 : u_T := fun k => match k with
  | 0 => ("KnivesGround$Text", "signs", "[I", true)
  | 1 => ("KnivesGround$Text", "lefts", "[I", true)
  | 2 => ("KnivesGround$Text", "rights", "[I", true)
  | 3 => ("KnivesGround$Text", "values", "[I", true)
  | 4 => ("KnivesGround$Text", "use", "I", false)
  | _ => ("KnivesGround$Text", "size", "I", false)
def tyX4 : Nat → FieldType := fun k => match k with
  | 0 => .array .int
  | 1 => .array .int
  | 2 => .array .int
  | 3 => .array .int
  | 4 => .int
  | _ => .int
abbrev wsX40 : List Cond := u_ws RX4 TX4 6
theorem nmX4 : ∀ a, a < 6 → ∀ b, b < 6 → a ≠ b → (TX4 a).2.1 ≠ (TX4 b).2.1 := by decide +kernel
theorem tyX4_ok : ∀ k, k < 6 → parseFieldDescriptor (TX4 k).2.2.1 = some (tyX4 k) := by decide +kernel
abbrev cX4_init : ByteArray := prog_6_method_1_code
def yX4_init : MethodName := ⟨RX4, "<init>", "()V"⟩
abbrev cX4_clear : ByteArray := prog_6_method_2_code
def yX4_clear : MethodName := ⟨RX4, "clear", "(I)V"⟩
abbrev cX4_add : ByteArray := prog_6_method_3_code
def yX4_add : MethodName := ⟨RX4, "add", "(III)I"⟩
abbrev cX4_copyFrom : ByteArray := prog_6_method_4_code
def yX4_copyFrom : MethodName := ⟨RX4, "copyFrom", "(LKnivesGround$Text;)V"⟩
abbrev cX4_gives : ByteArray := prog_6_method_5_code
def yX4_gives : MethodName := ⟨RX4, "gives", "(III)I"⟩
abbrev cX4_workedOut : ByteArray := prog_6_method_6_code
def yX4_workedOut : MethodName := ⟨RX4, "workedOut", "(III)I"⟩
abbrev cX4_joined : ByteArray := prog_6_method_7_code
def yX4_joined : MethodName := ⟨RX4, "joined", "(III)I"⟩
def RX5 : String := "KnivesGround$Voices"
def TX5 : u_T := fun k => match k with
  | 0 => ("KnivesGround$Voices", "trace", "[I", true)
  | 1 => ("KnivesGround$Voices", "bodies", "I", false)
  | 2 => ("KnivesGround$Voices", "own", "I", false)
  | 3 => ("KnivesGround$Voices", "n", "I", false)
  | _ => ("KnivesGround$Voices", "m", "I", false)
def tyX5 : Nat → FieldType := fun k => match k with
  | 0 => .array .int
  | 1 => .int
  | 2 => .int
  | 3 => .int
  | _ => .int
abbrev wsX50 : List Cond := u_ws RX5 TX5 5
theorem nmX5 : ∀ a, a < 5 → ∀ b, b < 5 → a ≠ b → (TX5 a).2.1 ≠ (TX5 b).2.1 := by decide +kernel
theorem tyX5_ok : ∀ k, k < 5 → parseFieldDescriptor (TX5 k).2.2.1 = some (tyX5 k) := by decide +kernel
abbrev cX5_init : ByteArray := prog_7_method_1_code
def yX5_init : MethodName := ⟨RX5, "<init>", "()V"⟩
abbrev cX5_beginWith : ByteArray := prog_7_method_2_code
def yX5_beginWith : MethodName := ⟨RX5, "beginWith", "(III)V"⟩
abbrev cX5_say : ByteArray := prog_7_method_3_code
def yX5_say : MethodName := ⟨RX5, "say", "(II)I"⟩
abbrev cX5_begin : ByteArray := prog_7_method_4_code
def yX5_begin : MethodName := ⟨RX5, "begin", "(I)V"⟩
abbrev cX5_sayGrinds : ByteArray := prog_7_method_5_code
def yX5_sayGrinds : MethodName := ⟨RX5, "sayGrinds", "(II)I"⟩
abbrev cX5_sayCuts : ByteArray := prog_7_method_6_code
def yX5_sayCuts : MethodName := ⟨RX5, "sayCuts", "(II)I"⟩
abbrev cX5_saySparks : ByteArray := prog_7_method_7_code
def yX5_saySparks : MethodName := ⟨RX5, "saySparks", "(II)I"⟩
abbrev cX5_sayTells : ByteArray := prog_7_method_8_code
def yX5_sayTells : MethodName := ⟨RX5, "sayTells", "(II)I"⟩
def RX6 : String := "KnivesGround$Whole"
def TX6 : u_T := fun k => match k with
  | 0 => ("KnivesGround$Whole", "grinds", "LKnivesGround$Text;", true)
  | 1 => ("KnivesGround$Whole", "harms", "LKnivesGround$Text;", true)
  | 2 => ("KnivesGround$Whole", "ground", "LKnivesGround$Ground;", true)
  | 3 => ("KnivesGround$Whole", "tape", "[I", true)
  | 4 => ("KnivesGround$Whole", "waiting", "[I", true)
  | 5 => ("KnivesGround$Whole", "bytes", "I", false)
  | 6 => ("KnivesGround$Whole", "waits", "I", false)
  | _ => ("KnivesGround$Whole", "z", "I", false)
def tyX6 : Nat → FieldType := fun k => match k with
  | 0 => .object "KnivesGround$Text"
  | 1 => .object "KnivesGround$Text"
  | 2 => .object "KnivesGround$Ground"
  | 3 => .array .int
  | 4 => .array .int
  | 5 => .int
  | 6 => .int
  | _ => .int
abbrev wsX60 : List Cond := u_ws RX6 TX6 8
theorem nmX6 : ∀ a, a < 8 → ∀ b, b < 8 → a ≠ b → (TX6 a).2.1 ≠ (TX6 b).2.1 := by decide +kernel
theorem tyX6_ok : ∀ k, k < 8 → parseFieldDescriptor (TX6 k).2.2.1 = some (tyX6 k) := by decide +kernel
abbrev cX6_init : ByteArray := prog_8_method_1_code
def yX6_init : MethodName := ⟨RX6, "<init>", "()V"⟩
abbrev cX6_textOf : ByteArray := prog_8_method_2_code
def yX6_textOf : MethodName := ⟨RX6, "textOf", "(I)LKnivesGround$Text;"⟩
abbrev cX6_draw : ByteArray := prog_8_method_3_code
def yX6_draw : MethodName := ⟨RX6, "draw", "()I"⟩
abbrev cX6_copyFrom : ByteArray := prog_8_method_4_code
def yX6_copyFrom : MethodName := ⟨RX6, "copyFrom", "(LKnivesGround$Whole;)V"⟩
def RX7 : String := "KnivesGround"
def TX7 : u_T := fun k => match k with
  | 0 => ("KnivesGround", "now", "LKnivesGround$Whole;", true)
  | 1 => ("KnivesGround", "kept", "LKnivesGround$Whole;", true)
  | 2 => ("KnivesGround", "thought", "LKnivesGround$Ground;", true)
  | 3 => ("KnivesGround", "reader", "LKnivesGround$Reader;", true)
  | 4 => ("KnivesGround", "voices", "LKnivesGround$Voices;", true)
  | 5 => ("KnivesGround", "sheets", "[LKnivesGround$Sheet;", true)
  | 6 => ("KnivesGround", "refused", "[I", true)
  | _ => ("KnivesGround", "images", "I", false)
def tyX7 : Nat → FieldType := fun k => match k with
  | 0 => .object "KnivesGround$Whole"
  | 1 => .object "KnivesGround$Whole"
  | 2 => .object "KnivesGround$Ground"
  | 3 => .object "KnivesGround$Reader"
  | 4 => .object "KnivesGround$Voices"
  | 5 => .array (.object "KnivesGround$Sheet")
  | 6 => .array .int
  | _ => .int
abbrev wsX70 : List Cond := u_ws RX7 TX7 8
theorem nmX7 : ∀ a, a < 8 → ∀ b, b < 8 → a ≠ b → (TX7 a).2.1 ≠ (TX7 b).2.1 := by decide +kernel
theorem tyX7_ok : ∀ k, k < 8 → parseFieldDescriptor (TX7 k).2.2.1 = some (tyX7 k) := by decide +kernel
abbrev cX7_init : ByteArray := prog_1_method_1_code
def yX7_init : MethodName := ⟨RX7, "<init>", "()V"⟩
abbrev cX7_set : ByteArray := prog_1_method_2_code
def yX7_set : MethodName := ⟨RX7, "set", "(II)I"⟩
abbrev cX7_inArea : ByteArray := prog_1_method_3_code
def yX7_inArea : MethodName := ⟨RX7, "inArea", "(I)I"⟩
abbrev cX7_quarrel : ByteArray := prog_1_method_4_code
def yX7_quarrel : MethodName := ⟨RX7, "quarrel", "(IIII)I"⟩
abbrev cX7_ofQuarrel : ByteArray := prog_1_method_5_code
def yX7_ofQuarrel : MethodName := ⟨RX7, "ofQuarrel", "(II)I"⟩
abbrev cX7_change : ByteArray := prog_1_method_6_code
def yX7_change : MethodName := ⟨RX7, "change", "(III)I"⟩
abbrev cX7_become : ByteArray := prog_1_method_7_code
def yX7_become : MethodName := ⟨RX7, "become", "(II)I"⟩
abbrev cX7_as : ByteArray := prog_1_method_8_code
def yX7_as : MethodName := ⟨RX7, "as", "(II)I"⟩
abbrev cX7_feed : ByteArray := prog_1_method_9_code
def yX7_feed : MethodName := ⟨RX7, "feed", "(JI)I"⟩
abbrev cX7_text : ByteArray := prog_1_method_10_code
def yX7_text : MethodName := ⟨RX7, "text", "(I)I"⟩
abbrev cX7_law : ByteArray := prog_1_method_11_code
def yX7_law : MethodName := ⟨RX7, "law", "(IIII)I"⟩
abbrev cX7_days : ByteArray := prog_1_method_12_code
def yX7_days : MethodName := ⟨RX7, "days", "(I)I"⟩
abbrev cX7_loose : ByteArray := prog_1_method_13_code
def yX7_loose : MethodName := ⟨RX7, "loose", "(I)I"⟩
abbrev cX7_then : ByteArray := prog_1_method_14_code
def yX7_then : MethodName := ⟨RX7, "then", "(III)I"⟩
abbrev cX7_when : ByteArray := prog_1_method_15_code
def yX7_when : MethodName := ⟨RX7, "when", "(I)I"⟩
abbrev cX7_ended : ByteArray := prog_1_method_16_code
def yX7_ended : MethodName := ⟨RX7, "ended", "(I)I"⟩
abbrev cX7_start : ByteArray := prog_1_method_17_code
def yX7_start : MethodName := ⟨RX7, "start", "(II)I"⟩
abbrev cX7_pace : ByteArray := prog_1_method_18_code
def yX7_pace : MethodName := ⟨RX7, "pace", "(II)I"⟩
abbrev cX7_hand : ByteArray := prog_1_method_19_code
def yX7_hand : MethodName := ⟨RX7, "hand", "(II)I"⟩
abbrev cX7_first : ByteArray := prog_1_method_20_code
def yX7_first : MethodName := ⟨RX7, "first", "(II)I"⟩
abbrev cX7_sparks : ByteArray := prog_1_method_21_code
def yX7_sparks : MethodName := ⟨RX7, "sparks", "(II)I"⟩
abbrev cX7_last : ByteArray := prog_1_method_22_code
def yX7_last : MethodName := ⟨RX7, "last", "(I)I"⟩
abbrev cX7_sharp : ByteArray := prog_1_method_23_code
def yX7_sharp : MethodName := ⟨RX7, "sharp", "(II)I"⟩
abbrev cX7_off : ByteArray := prog_1_method_24_code
def yX7_off : MethodName := ⟨RX7, "off", "(I)I"⟩
abbrev cX7_chain : ByteArray := prog_1_method_25_code
def yX7_chain : MethodName := ⟨RX7, "chain", "(I)I"⟩
abbrev cX7_fee : ByteArray := prog_1_method_26_code
def yX7_fee : MethodName := ⟨RX7, "fee", "(I)I"⟩
abbrev cX7_free : ByteArray := prog_1_method_27_code
def yX7_free : MethodName := ⟨RX7, "free", "()I"⟩
abbrev cX7_odds : ByteArray := prog_1_method_28_code
def yX7_odds : MethodName := ⟨RX7, "odds", "(III)I"⟩
abbrev cX7_seed : ByteArray := prog_1_method_29_code
def yX7_seed : MethodName := ⟨RX7, "seed", "(I)I"⟩
abbrev cX7_voice : ByteArray := prog_1_method_30_code
def yX7_voice : MethodName := ⟨RX7, "voice", "(III)I"⟩
abbrev cX7_trace : ByteArray := prog_1_method_31_code
def yX7_trace : MethodName := ⟨RX7, "trace", "(I)I"⟩
abbrev cX7_sheet : ByteArray := prog_1_method_32_code
def yX7_sheet : MethodName := ⟨RX7, "sheet", "(III)I"⟩
abbrev cX7_put : ByteArray := prog_1_method_33_code
def yX7_put : MethodName := ⟨RX7, "put", "(III)I"⟩
abbrev cX7_move : ByteArray := prog_1_method_34_code
def yX7_move : MethodName := ⟨RX7, "move", "(IIIII)I"⟩
abbrev cX7_edges : ByteArray := prog_1_method_35_code
def yX7_edges : MethodName := ⟨RX7, "edges", "(I)I"⟩
abbrev cX7_judge : ByteArray := prog_1_method_36_code
def yX7_judge : MethodName := ⟨RX7, "judge", "(I)I"⟩
abbrev cX7_image : ByteArray := prog_1_method_37_code
def yX7_image : MethodName := ⟨RX7, "image", "()I"⟩
abbrev cX7_restore : ByteArray := prog_1_method_38_code
def yX7_restore : MethodName := ⟨RX7, "restore", "()I"⟩
abbrev cX7_tell : ByteArray := prog_1_method_39_code
def yX7_tell : MethodName := ⟨RX7, "tell", "(I)I"⟩
abbrev cX7_check : ByteArray := prog_1_method_40_code
def yX7_check : MethodName := ⟨RX7, "check", "()I"⟩
abbrev cX7_count : ByteArray := prog_1_method_41_code
def yX7_count : MethodName := ⟨RX7, "count", "(I)I"⟩
abbrev cX7_told : ByteArray := prog_1_method_42_code
def yX7_told : MethodName := ⟨RX7, "told", "(I)I"⟩
abbrev cX7_refuse : ByteArray := prog_1_method_43_code
def yX7_refuse : MethodName := ⟨RX7, "refuse", "(I)I"⟩
abbrev cX7_isQuarrel : ByteArray := prog_1_method_44_code
def yX7_isQuarrel : MethodName := ⟨RX7, "isQuarrel", "(I)Z"⟩
abbrev cX7_isSheet : ByteArray := prog_1_method_45_code
def yX7_isSheet : MethodName := ⟨RX7, "isSheet", "(I)Z"⟩
abbrev cX7_isKindAndM : ByteArray := prog_1_method_46_code
def yX7_isKindAndM : MethodName := ⟨RX7, "isKindAndM", "(I)Z"⟩
abbrev cX7_isWithin : ByteArray := prog_1_method_47_code
def yX7_isWithin : MethodName := ⟨RX7, "isWithin", "(III)Z"⟩
abbrev cX7_mostOfGrinder : ByteArray := prog_1_method_48_code
def yX7_mostOfGrinder : MethodName := ⟨RX7, "mostOfGrinder", "(I)I"⟩
abbrev cX7_mostOfQuarrel : ByteArray := prog_1_method_49_code
def yX7_mostOfQuarrel : MethodName := ⟨RX7, "mostOfQuarrel", "(I)I"⟩
abbrev cX7_greatestOf : ByteArray := prog_1_method_50_code
def yX7_greatestOf : MethodName := ⟨RX7, "greatestOf", "(I)I"⟩
abbrev cX7_greatestDivisor : ByteArray := prog_1_method_51_code
def yX7_greatestDivisor : MethodName := ⟨RX7, "greatestDivisor", "(II)I"⟩
abbrev cX7_think : ByteArray := prog_1_method_52_code
def yX7_think : MethodName := ⟨RX7, "think", "()V"⟩
abbrev cX7_thinkDays : ByteArray := prog_1_method_53_code
def yX7_thinkDays : MethodName := ⟨RX7, "thinkDays", "(I)V"⟩
abbrev cX7_thinkDaysWithHarm : ByteArray := prog_1_method_54_code
def yX7_thinkDaysWithHarm : MethodName := ⟨RX7, "thinkDaysWithHarm", "(I)V"⟩
abbrev cX7_endsInThought : ByteArray := prog_1_method_55_code
def yX7_endsInThought : MethodName := ⟨RX7, "endsInThought", "(II)Z"⟩
def RX8 : String := "KnivesGroundModel"
def TX8 : u_T := fun k => match k with
  | 0 => ("KnivesGroundModel", "row", "[I", true)
  | 1 => ("KnivesGroundModel", "kept", "[I", true)
  | 2 => ("KnivesGroundModel", "tried", "[I", true)
  | 3 => ("KnivesGroundModel", "isKept", "Z", false)
  | 4 => ("KnivesGroundModel", "images", "I", false)
  | 5 => ("KnivesGroundModel", "found", "[I", true)
  | 6 => ("KnivesGroundModel", "use", "I", false)
  | 7 => ("KnivesGroundModel", "at", "I", false)
  | 8 => ("KnivesGroundModel", "end", "I", false)
  | 9 => ("KnivesGroundModel", "open", "I", false)
  | 10 => ("KnivesGroundModel", "steps", "I", false)
  | 11 => ("KnivesGroundModel", "good", "Z", false)
  | 12 => ("KnivesGroundModel", "made", "[I", true)
  | 13 => ("KnivesGroundModel", "pile", "[I", true)
  | 14 => ("KnivesGroundModel", "names", "[I", true)
  | 15 => ("KnivesGroundModel", "bitsOf", "[I", true)
  | 16 => ("KnivesGroundModel", "sizeOf", "[I", true)
  | 17 => ("KnivesGroundModel", "sheets", "[I", true)
  | 18 => ("KnivesGroundModel", "moved", "[I", true)
  | 19 => ("KnivesGroundModel", "traced", "[I", true)
  | 20 => ("KnivesGroundModel", "tracedMany", "I", false)
  | 21 => ("KnivesGroundModel", "voiceKind", "I", false)
  | 22 => ("KnivesGroundModel", "voiceN", "I", false)
  | _ => ("KnivesGroundModel", "voiceM", "I", false)
def tyX8 : Nat → FieldType := fun k => match k with
  | 0 => .array .int
  | 1 => .array .int
  | 2 => .array .int
  | 3 => .boolean
  | 4 => .int
  | 5 => .array .int
  | 6 => .int
  | 7 => .int
  | 8 => .int
  | 9 => .int
  | 10 => .int
  | 11 => .boolean
  | 12 => .array .int
  | 13 => .array .int
  | 14 => .array .int
  | 15 => .array .int
  | 16 => .array .int
  | 17 => .array .int
  | 18 => .array .int
  | 19 => .array .int
  | 20 => .int
  | 21 => .int
  | 22 => .int
  | _ => .int
abbrev wsX80 : List Cond := u_ws RX8 TX8 24
theorem nmX8 : ∀ a, a < 24 → ∀ b, b < 24 → a ≠ b → (TX8 a).2.1 ≠ (TX8 b).2.1 := by decide +kernel
theorem tyX8_ok : ∀ k, k < 24 → parseFieldDescriptor (TX8 k).2.2.1 = some (tyX8 k) := by decide +kernel
abbrev cX8_init : ByteArray := prog_10_method_1_code
def yX8_init : MethodName := ⟨RX8, "<init>", "()V"⟩
abbrev cX8_in : ByteArray := prog_10_method_2_code
def yX8_in : MethodName := ⟨RX8, "in", "(III)Z"⟩
abbrev cX8_errs : ByteArray := prog_10_method_3_code
def yX8_errs : MethodName := ⟨RX8, "errs", "(I)I"⟩
abbrev cX8_held : ByteArray := prog_10_method_4_code
def yX8_held : MethodName := ⟨RX8, "held", "(III)I"⟩
abbrev cX8_moveAll : ByteArray := prog_10_method_5_code
def yX8_moveAll : MethodName := ⟨RX8, "moveAll", "([I[I)V"⟩
abbrev cX8_bits : ByteArray := prog_10_method_6_code
def yX8_bits : MethodName := ⟨RX8, "bits", "(I)I"⟩
abbrev cX8_its : ByteArray := prog_10_method_7_code
def yX8_its : MethodName := ⟨RX8, "its", "(II)I"⟩
abbrev cX8_gets : ByteArray := prog_10_method_8_code
def yX8_gets : MethodName := ⟨RX8, "gets", "(III)V"⟩
abbrev cX8_isQuarrel : ByteArray := prog_10_method_9_code
def yX8_isQuarrel : MethodName := ⟨RX8, "isQuarrel", "(I)Z"⟩
abbrev cX8_isArea : ByteArray := prog_10_method_10_code
def yX8_isArea : MethodName := ⟨RX8, "isArea", "(I)Z"⟩
abbrev cX8_becomes : ByteArray := prog_10_method_11_code
def yX8_becomes : MethodName := ⟨RX8, "becomes", "(II)I"⟩
abbrev cX8_set : ByteArray := prog_10_method_12_code
def yX8_set : MethodName := ⟨RX8, "set", "(II)I"⟩
abbrev cX8_inArea : ByteArray := prog_10_method_13_code
def yX8_inArea : MethodName := ⟨RX8, "inArea", "(I)I"⟩
abbrev cX8_quarrel : ByteArray := prog_10_method_14_code
def yX8_quarrel : MethodName := ⟨RX8, "quarrel", "(IIII)I"⟩
abbrev cX8_ofQuarrel : ByteArray := prog_10_method_15_code
def yX8_ofQuarrel : MethodName := ⟨RX8, "ofQuarrel", "(II)I"⟩
abbrev cX8_change : ByteArray := prog_10_method_16_code
def yX8_change : MethodName := ⟨RX8, "change", "(III)I"⟩
abbrev cX8_become : ByteArray := prog_10_method_17_code
def yX8_become : MethodName := ⟨RX8, "become", "(II)I"⟩
abbrev cX8_above : ByteArray := prog_10_method_18_code
def yX8_above : MethodName := ⟨RX8, "above", "(I)I"⟩
abbrev cX8_as : ByteArray := prog_10_method_19_code
def yX8_as : MethodName := ⟨RX8, "as", "(II)I"⟩
abbrev cX8_byteAt : ByteArray := prog_10_method_20_code
def yX8_byteAt : MethodName := ⟨RX8, "byteAt", "(I)I"⟩
abbrev cX8_isDigit : ByteArray := prog_10_method_21_code
def yX8_isDigit : MethodName := ⟨RX8, "isDigit", "(I)Z"⟩
abbrev cX8_adds : ByteArray := prog_10_method_22_code
def yX8_adds : MethodName := ⟨RX8, "adds", "(I)V"⟩
abbrev cX8_number : ByteArray := prog_10_method_23_code
def yX8_number : MethodName := ⟨RX8, "number", "()V"⟩
abbrev cX8_named : ByteArray := prog_10_method_24_code
def yX8_named : MethodName := ⟨RX8, "named", "(I)V"⟩
abbrev cX8_factor : ByteArray := prog_10_method_25_code
def yX8_factor : MethodName := ⟨RX8, "factor", "()V"⟩
abbrev cX8_product : ByteArray := prog_10_method_26_code
def yX8_product : MethodName := ⟨RX8, "product", "()V"⟩
abbrev cX8_sum : ByteArray := prog_10_method_27_code
def yX8_sum : MethodName := ⟨RX8, "sum", "()V"⟩
abbrev cX8_compared : ByteArray := prog_10_method_28_code
def yX8_compared : MethodName := ⟨RX8, "compared", "()V"⟩
abbrev cX8_both : ByteArray := prog_10_method_29_code
def yX8_both : MethodName := ⟨RX8, "both", "()V"⟩
abbrev cX8_whole : ByteArray := prog_10_method_30_code
def yX8_whole : MethodName := ⟨RX8, "whole", "()V"⟩
abbrev cX8_workedOut : ByteArray := prog_10_method_31_code
def yX8_workedOut : MethodName := ⟨RX8, "workedOut", "(III)I"⟩
abbrev cX8_walks : ByteArray := prog_10_method_32_code
def yX8_walks : MethodName := ⟨RX8, "walks", "(IIII)I"⟩
abbrev cX8_lawOf : ByteArray := prog_10_method_33_code
def yX8_lawOf : MethodName := ⟨RX8, "lawOf", "(IIII)I"⟩
abbrev cX8_law : ByteArray := prog_10_method_34_code
def yX8_law : MethodName := ⟨RX8, "law", "(IIII)I"⟩
abbrev cX8_feed : ByteArray := prog_10_method_35_code
def yX8_feed : MethodName := ⟨RX8, "feed", "(JI)I"⟩
abbrev cX8_text : ByteArray := prog_10_method_36_code
def yX8_text : MethodName := ⟨RX8, "text", "(I)I"⟩
abbrev cX8_gains : ByteArray := prog_10_method_37_code
def yX8_gains : MethodName := ⟨RX8, "gains", "(I)I"⟩
abbrev cX8_needs : ByteArray := prog_10_method_38_code
def yX8_needs : MethodName := ⟨RX8, "needs", "(I)I"⟩
abbrev cX8_dulls : ByteArray := prog_10_method_39_code
def yX8_dulls : MethodName := ⟨RX8, "dulls", "(I)I"⟩
abbrev cX8_isOver : ByteArray := prog_10_method_40_code
def yX8_isOver : MethodName := ⟨RX8, "isOver", "(I)Z"⟩
abbrev cX8_isLoose : ByteArray := prog_10_method_41_code
def yX8_isLoose : MethodName := ⟨RX8, "isLoose", "(I)Z"⟩
abbrev cX8_grindsAll : ByteArray := prog_10_method_42_code
def yX8_grindsAll : MethodName := ⟨RX8, "grindsAll", "()V"⟩
abbrev cX8_goesOn : ByteArray := prog_10_method_43_code
def yX8_goesOn : MethodName := ⟨RX8, "goesOn", "(I)V"⟩
abbrev cX8_oneDay : ByteArray := prog_10_method_44_code
def yX8_oneDay : MethodName := ⟨RX8, "oneDay", "(Z)V"⟩
abbrev cX8_passes : ByteArray := prog_10_method_45_code
def yX8_passes : MethodName := ⟨RX8, "passes", "(I)V"⟩
abbrev cX8_overSet : ByteArray := prog_10_method_46_code
def yX8_overSet : MethodName := ⟨RX8, "overSet", "()I"⟩
abbrev cX8_overBehind : ByteArray := prog_10_method_47_code
def yX8_overBehind : MethodName := ⟨RX8, "overBehind", "(I)I"⟩
abbrev cX8_days : ByteArray := prog_10_method_48_code
def yX8_days : MethodName := ⟨RX8, "days", "(I)I"⟩
abbrev cX8_drawn : ByteArray := prog_10_method_49_code
def yX8_drawn : MethodName := ⟨RX8, "drawn", "(I)I"⟩
abbrev cX8_loose : ByteArray := prog_10_method_50_code
def yX8_loose : MethodName := ⟨RX8, "loose", "(I)I"⟩
abbrev cX8_then : ByteArray := prog_10_method_51_code
def yX8_then : MethodName := ⟨RX8, "then", "(III)I"⟩
abbrev cX8_when : ByteArray := prog_10_method_52_code
def yX8_when : MethodName := ⟨RX8, "when", "(I)I"⟩
abbrev cX8_ended : ByteArray := prog_10_method_53_code
def yX8_ended : MethodName := ⟨RX8, "ended", "(I)I"⟩
abbrev cX8_mostOver : ByteArray := prog_10_method_54_code
def yX8_mostOver : MethodName := ⟨RX8, "mostOver", "(III)I"⟩
abbrev cX8_start : ByteArray := prog_10_method_55_code
def yX8_start : MethodName := ⟨RX8, "start", "(II)I"⟩
abbrev cX8_pace : ByteArray := prog_10_method_56_code
def yX8_pace : MethodName := ⟨RX8, "pace", "(II)I"⟩
abbrev cX8_isOverBy : ByteArray := prog_10_method_57_code
def yX8_isOverBy : MethodName := ⟨RX8, "isOverBy", "(III)Z"⟩
abbrev cX8_hand : ByteArray := prog_10_method_58_code
def yX8_hand : MethodName := ⟨RX8, "hand", "(II)I"⟩
abbrev cX8_first : ByteArray := prog_10_method_59_code
def yX8_first : MethodName := ⟨RX8, "first", "(II)I"⟩
abbrev cX8_isSheet : ByteArray := prog_10_method_60_code
def yX8_isSheet : MethodName := ⟨RX8, "isSheet", "(I)Z"⟩
abbrev cX8_areEdgesSo : ByteArray := prog_10_method_61_code
def yX8_areEdgesSo : MethodName := ⟨RX8, "areEdgesSo", "(I)Z"⟩
abbrev cX8_sparks : ByteArray := prog_10_method_62_code
def yX8_sparks : MethodName := ⟨RX8, "sparks", "(II)I"⟩
abbrev cX8_last : ByteArray := prog_10_method_63_code
def yX8_last : MethodName := ⟨RX8, "last", "(I)I"⟩
abbrev cX8_sharp : ByteArray := prog_10_method_64_code
def yX8_sharp : MethodName := ⟨RX8, "sharp", "(II)I"⟩
abbrev cX8_off : ByteArray := prog_10_method_65_code
def yX8_off : MethodName := ⟨RX8, "off", "(I)I"⟩
abbrev cX8_chain : ByteArray := prog_10_method_66_code
def yX8_chain : MethodName := ⟨RX8, "chain", "(I)I"⟩
abbrev cX8_fee : ByteArray := prog_10_method_67_code
def yX8_fee : MethodName := ⟨RX8, "fee", "(I)I"⟩
abbrev cX8_free : ByteArray := prog_10_method_68_code
def yX8_free : MethodName := ⟨RX8, "free", "()I"⟩
abbrev cX8_divisor : ByteArray := prog_10_method_69_code
def yX8_divisor : MethodName := ⟨RX8, "divisor", "(II)I"⟩
abbrev cX8_odds : ByteArray := prog_10_method_70_code
def yX8_odds : MethodName := ⟨RX8, "odds", "(III)I"⟩
abbrev cX8_seed : ByteArray := prog_10_method_71_code
def yX8_seed : MethodName := ⟨RX8, "seed", "(I)I"⟩
abbrev cX8_ran : ByteArray := prog_10_method_72_code
def yX8_ran : MethodName := ⟨RX8, "ran", "(I)V"⟩
abbrev cX8_grindsIn : ByteArray := prog_10_method_73_code
def yX8_grindsIn : MethodName := ⟨RX8, "grindsIn", "(II)I"⟩
abbrev cX8_sparksIn : ByteArray := prog_10_method_74_code
def yX8_sparksIn : MethodName := ⟨RX8, "sparksIn", "(II)I"⟩
abbrev cX8_cutsIn : ByteArray := prog_10_method_75_code
def yX8_cutsIn : MethodName := ⟨RX8, "cutsIn", "(II)I"⟩
abbrev cX8_tellsIn : ByteArray := prog_10_method_76_code
def yX8_tellsIn : MethodName := ⟨RX8, "tellsIn", "(II)I"⟩
abbrev cX8_voice : ByteArray := prog_10_method_77_code
def yX8_voice : MethodName := ⟨RX8, "voice", "(III)I"⟩
abbrev cX8_trace : ByteArray := prog_10_method_78_code
def yX8_trace : MethodName := ⟨RX8, "trace", "(I)I"⟩
abbrev cX8_narrow : ByteArray := prog_10_method_79_code
def yX8_narrow : MethodName := ⟨RX8, "narrow", "(II)I"⟩
abbrev cX8_sheet : ByteArray := prog_10_method_80_code
def yX8_sheet : MethodName := ⟨RX8, "sheet", "(III)I"⟩
abbrev cX8_put : ByteArray := prog_10_method_81_code
def yX8_put : MethodName := ⟨RX8, "put", "(III)I"⟩
abbrev cX8_move : ByteArray := prog_10_method_82_code
def yX8_move : MethodName := ⟨RX8, "move", "(IIIII)I"⟩
abbrev cX8_edges : ByteArray := prog_10_method_83_code
def yX8_edges : MethodName := ⟨RX8, "edges", "(I)I"⟩
abbrev cX8_judge : ByteArray := prog_10_method_84_code
def yX8_judge : MethodName := ⟨RX8, "judge", "(I)I"⟩
abbrev cX8_image : ByteArray := prog_10_method_85_code
def yX8_image : MethodName := ⟨RX8, "image", "()I"⟩
abbrev cX8_restore : ByteArray := prog_10_method_86_code
def yX8_restore : MethodName := ⟨RX8, "restore", "()I"⟩
abbrev cX8_tell : ByteArray := prog_10_method_87_code
def yX8_tell : MethodName := ⟨RX8, "tell", "(I)I"⟩
abbrev cX8_check : ByteArray := prog_10_method_88_code
def yX8_check : MethodName := ⟨RX8, "check", "()I"⟩
abbrev cX8_edgesOfAll : ByteArray := prog_10_method_89_code
def yX8_edgesOfAll : MethodName := ⟨RX8, "edgesOfAll", "()I"⟩
abbrev cX8_count : ByteArray := prog_10_method_90_code
def yX8_count : MethodName := ⟨RX8, "count", "(I)I"⟩
abbrev cX8_told : ByteArray := prog_10_method_91_code
def yX8_told : MethodName := ⟨RX8, "told", "(I)I"⟩
def RJ6 : String := "java/lang/Integer"
def TJ6 : u_T := fun k => match k with
  | _ => ("", "", "", false)
def tyJ6 : Nat → FieldType := fun k => match k with
  | _ => .int
abbrev wsJ60 : List Cond := u_ws RJ6 TJ6 0
theorem nmJ6 : ∀ a, a < 0 → ∀ b, b < 0 → a ≠ b → (TJ6 a).2.1 ≠ (TJ6 b).2.1 := by decide +kernel
theorem tyJ6_ok : ∀ k, k < 0 → parseFieldDescriptor (TJ6 k).2.2.1 = some (tyJ6 k) := by decide +kernel
abbrev cJ6_bitCount_0f7a4 : ByteArray := prog_11_method_49_code
def yJ6_bitCount_0f7a4 : MethodName := ⟨RJ6, "bitCount", "(I)I"⟩
def RJ9 : String := "java/lang/Math"
def TJ9 : u_T := fun k => match k with
  | _ => ("", "", "", false)
def tyJ9 : Nat → FieldType := fun k => match k with
  | _ => .int
abbrev wsJ90 : List Cond := u_ws RJ9 TJ9 0
theorem nmJ9 : ∀ a, a < 0 → ∀ b, b < 0 → a ≠ b → (TJ9 a).2.1 ≠ (TJ9 b).2.1 := by decide +kernel
theorem tyJ9_ok : ∀ k, k < 0 → parseFieldDescriptor (TJ9 k).2.2.1 = some (tyJ9 k) := by decide +kernel
abbrev cJ9_max_7cf53 : ByteArray := prog_12_method_65_code
def yJ9_max_7cf53 : MethodName := ⟨RJ9, "max", "(II)I"⟩
abbrev cJ9_min_7cf53 : ByteArray := prog_12_method_69_code
def yJ9_min_7cf53 : MethodName := ⟨RJ9, "min", "(II)I"⟩
def RJ10 : String := "java/lang/System"
def TJ10 : u_T := fun k => match k with
  | _ => ("", "", "", false)
def tyJ10 : Nat → FieldType := fun k => match k with
  | _ => .int
abbrev wsJ100 : List Cond := u_ws RJ10 TJ10 0
theorem nmJ10 : ∀ a, a < 0 → ∀ b, b < 0 → a ≠ b → (TJ10 a).2.1 ≠ (TJ10 b).2.1 := by decide +kernel
theorem tyJ10_ok : ∀ k, k < 0 → parseFieldDescriptor (TJ10 k).2.2.1 = some (tyJ10 k) := by decide +kernel
def RL : String := "KnivesGroundLaw"
abbrev cL_law : ByteArray := code
def yL_law : MethodName := ⟨RL, "law", "([I)Z"⟩
theorem inJ6 : ∀ w ∈ wsJ60, w ∈ lw_tbl := by decide +kernel
theorem inJ9 : ∀ w ∈ wsJ90, w ∈ lw_tbl := by decide +kernel
theorem inJ10 : ∀ w ∈ wsJ100, w ∈ lw_tbl := by decide +kernel
abbrev vwCl : List vw_C := [(RX0, TX0, 9), (RX1, TX1, 7), (RX2, TX2, 5), (RX3, TX3, 3), (RX4, TX4, 6), (RX5, TX5, 5), (RX6, TX6, 8), (RX7, TX7, 8), (RX8, TX8, 24)]
