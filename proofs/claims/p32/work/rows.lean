section
-- ===== PART A: goes FIRST, ahead of the names: the tables' words, and 'selects' of the private methods out of them =====
/-- a private method of a class that the tables say can be made, by its rows of tables_1 -/
def lw_okq (q : MethodName × Nat) : Prop := (q.1.cls ≠ "java/lang/invoke/MethodHandle" ∧ q.1.cls ≠ "java/lang/invoke/VarHandle") ∧ Cond.instantiable q.1.cls q.2 ∈ tables_1 ∧ Cond.privateMethod q.1 ∈ tables_1 ∧ Cond.instanceMethod q.1 ∈ tables_1
theorem lw_p0 : lw_okq (⟨"KnivesGround$Text", "clear", "(I)V"⟩, 6) := ⟨⟨by decide +kernel, by decide +kernel⟩, List.mem_of_getElem? (i := 28) (by decide +kernel), List.mem_of_getElem? (i := 138) (by decide +kernel), List.mem_of_getElem? (i := 139) (by decide +kernel)⟩
theorem lw_p1 : lw_okq (⟨"KnivesGround", "refuse", "(I)I"⟩, 8) := ⟨⟨by decide +kernel, by decide +kernel⟩, List.mem_of_getElem? (i := 14) (by decide +kernel), List.mem_of_getElem? (i := 285) (by decide +kernel), List.mem_of_getElem? (i := 286) (by decide +kernel)⟩
theorem lw_p2 : lw_okq (⟨"KnivesGround$Ground", "setGrinder", "(II)I"⟩, 9) := ⟨⟨by decide +kernel, by decide +kernel⟩, List.mem_of_getElem? (i := 55) (by decide +kernel), List.mem_of_getElem? (i := 290) (by decide +kernel), List.mem_of_getElem? (i := 291) (by decide +kernel)⟩
theorem lw_p3 : lw_okq (⟨"KnivesGround$Ground", "setInArea", "(I)I"⟩, 9) := ⟨⟨by decide +kernel, by decide +kernel⟩, List.mem_of_getElem? (i := 55) (by decide +kernel), List.mem_of_getElem? (i := 298) (by decide +kernel), List.mem_of_getElem? (i := 299) (by decide +kernel)⟩
theorem lw_p4 : lw_okq (⟨"KnivesGround$One", "turnInto", "(I)V"⟩, 7) := ⟨⟨by decide +kernel, by decide +kernel⟩, List.mem_of_getElem? (i := 62) (by decide +kernel), List.mem_of_getElem? (i := 310) (by decide +kernel), List.mem_of_getElem? (i := 311) (by decide +kernel)⟩
theorem lw_p5 : lw_okq (⟨"KnivesGround", "isQuarrel", "(I)Z"⟩, 8) := ⟨⟨by decide +kernel, by decide +kernel⟩, List.mem_of_getElem? (i := 14) (by decide +kernel), List.mem_of_getElem? (i := 318) (by decide +kernel), List.mem_of_getElem? (i := 319) (by decide +kernel)⟩
theorem lw_p6 : lw_okq (⟨"KnivesGround$Ground", "gainsOf", "(LKnivesGround$One;)I"⟩, 9) := ⟨⟨by decide +kernel, by decide +kernel⟩, List.mem_of_getElem? (i := 55) (by decide +kernel), List.mem_of_getElem? (i := 322) (by decide +kernel), List.mem_of_getElem? (i := 323) (by decide +kernel)⟩
theorem lw_p7 : lw_okq (⟨"KnivesGround$Text", "gives", "(III)I"⟩, 6) := ⟨⟨by decide +kernel, by decide +kernel⟩, List.mem_of_getElem? (i := 28) (by decide +kernel), List.mem_of_getElem? (i := 326) (by decide +kernel), List.mem_of_getElem? (i := 327) (by decide +kernel)⟩
theorem lw_p8 : lw_okq (⟨"KnivesGround$Text", "workedOut", "(III)I"⟩, 6) := ⟨⟨by decide +kernel, by decide +kernel⟩, List.mem_of_getElem? (i := 28) (by decide +kernel), List.mem_of_getElem? (i := 330) (by decide +kernel), List.mem_of_getElem? (i := 331) (by decide +kernel)⟩
theorem lw_p9 : lw_okq (⟨"KnivesGround$One", "gains", "(II)I"⟩, 7) := ⟨⟨by decide +kernel, by decide +kernel⟩, List.mem_of_getElem? (i := 62) (by decide +kernel), List.mem_of_getElem? (i := 343) (by decide +kernel), List.mem_of_getElem? (i := 344) (by decide +kernel)⟩
theorem lw_p10 : lw_okq (⟨"KnivesGround$One", "needs", "()I"⟩, 7) := ⟨⟨by decide +kernel, by decide +kernel⟩, List.mem_of_getElem? (i := 62) (by decide +kernel), List.mem_of_getElem? (i := 348) (by decide +kernel), List.mem_of_getElem? (i := 349) (by decide +kernel)⟩
theorem lw_p11 : lw_okq (⟨"KnivesGround$One", "dulls", "()I"⟩, 7) := ⟨⟨by decide +kernel, by decide +kernel⟩, List.mem_of_getElem? (i := 62) (by decide +kernel), List.mem_of_getElem? (i := 352) (by decide +kernel), List.mem_of_getElem? (i := 353) (by decide +kernel)⟩
theorem lw_p12 : lw_okq (⟨"KnivesGround$One", "changeTo", "(II)I"⟩, 7) := ⟨⟨by decide +kernel, by decide +kernel⟩, List.mem_of_getElem? (i := 62) (by decide +kernel), List.mem_of_getElem? (i := 363) (by decide +kernel), List.mem_of_getElem? (i := 364) (by decide +kernel)⟩
theorem lw_p13 : lw_okq (⟨"KnivesGround$One", "isOfKind", "(I)Z"⟩, 7) := ⟨⟨by decide +kernel, by decide +kernel⟩, List.mem_of_getElem? (i := 62) (by decide +kernel), List.mem_of_getElem? (i := 375) (by decide +kernel), List.mem_of_getElem? (i := 376) (by decide +kernel)⟩
theorem lw_p14 : lw_okq (⟨"KnivesGround$Reader", "read", "([III)I"⟩, 5) := ⟨⟨by decide +kernel, by decide +kernel⟩, List.mem_of_getElem? (i := 177) (by decide +kernel), List.mem_of_getElem? (i := 390) (by decide +kernel), List.mem_of_getElem? (i := 391) (by decide +kernel)⟩
theorem lw_p15 : lw_okq (⟨"KnivesGround$Reader", "readLevel", "(II)I"⟩, 5) := ⟨⟨by decide +kernel, by decide +kernel⟩, List.mem_of_getElem? (i := 177) (by decide +kernel), List.mem_of_getElem? (i := 399) (by decide +kernel), List.mem_of_getElem? (i := 400) (by decide +kernel)⟩
def lw_privs_1 : List (MethodName × Nat) := [(⟨"KnivesGround$Text", "clear", "(I)V"⟩, 6), (⟨"KnivesGround", "refuse", "(I)I"⟩, 8), (⟨"KnivesGround$Ground", "setGrinder", "(II)I"⟩, 9), (⟨"KnivesGround$Ground", "setInArea", "(I)I"⟩, 9), (⟨"KnivesGround$One", "turnInto", "(I)V"⟩, 7), (⟨"KnivesGround", "isQuarrel", "(I)Z"⟩, 8), (⟨"KnivesGround$Ground", "gainsOf", "(LKnivesGround$One;)I"⟩, 9), (⟨"KnivesGround$Text", "gives", "(III)I"⟩, 6), (⟨"KnivesGround$Text", "workedOut", "(III)I"⟩, 6), (⟨"KnivesGround$One", "gains", "(II)I"⟩, 7), (⟨"KnivesGround$One", "needs", "()I"⟩, 7), (⟨"KnivesGround$One", "dulls", "()I"⟩, 7), (⟨"KnivesGround$One", "changeTo", "(II)I"⟩, 7), (⟨"KnivesGround$One", "isOfKind", "(I)Z"⟩, 7), (⟨"KnivesGround$Reader", "read", "([III)I"⟩, 5), (⟨"KnivesGround$Reader", "readLevel", "(II)I"⟩, 5)]
theorem lw_r1 : ∀ q ∈ lw_privs_1, lw_okq q := List.forall_mem_cons.mpr ⟨lw_p0, List.forall_mem_cons.mpr ⟨lw_p1, List.forall_mem_cons.mpr ⟨lw_p2, List.forall_mem_cons.mpr ⟨lw_p3, List.forall_mem_cons.mpr ⟨lw_p4, List.forall_mem_cons.mpr ⟨lw_p5, List.forall_mem_cons.mpr ⟨lw_p6, List.forall_mem_cons.mpr ⟨lw_p7, List.forall_mem_cons.mpr ⟨lw_p8, List.forall_mem_cons.mpr ⟨lw_p9, List.forall_mem_cons.mpr ⟨lw_p10, List.forall_mem_cons.mpr ⟨lw_p11, List.forall_mem_cons.mpr ⟨lw_p12, List.forall_mem_cons.mpr ⟨lw_p13, List.forall_mem_cons.mpr ⟨lw_p14, List.forall_mem_cons.mpr ⟨lw_p15, fun _ h => absurd h List.not_mem_nil⟩⟩⟩⟩⟩⟩⟩⟩⟩⟩⟩⟩⟩⟩⟩⟩
theorem lw_p16 : lw_okq (⟨"KnivesGround$Reader", "readInnermost", "(I)I"⟩, 5) := ⟨⟨by decide +kernel, by decide +kernel⟩, List.mem_of_getElem? (i := 177) (by decide +kernel), List.mem_of_getElem? (i := 403) (by decide +kernel), List.mem_of_getElem? (i := 404) (by decide +kernel)⟩
theorem lw_p17 : lw_okq (⟨"KnivesGround$Reader", "next", "()I"⟩, 5) := ⟨⟨by decide +kernel, by decide +kernel⟩, List.mem_of_getElem? (i := 177) (by decide +kernel), List.mem_of_getElem? (i := 407) (by decide +kernel), List.mem_of_getElem? (i := 408) (by decide +kernel)⟩
theorem lw_p18 : lw_okq (⟨"KnivesGround$Reader", "readNumber", "()I"⟩, 5) := ⟨⟨by decide +kernel, by decide +kernel⟩, List.mem_of_getElem? (i := 177) (by decide +kernel), List.mem_of_getElem? (i := 415) (by decide +kernel), List.mem_of_getElem? (i := 416) (by decide +kernel)⟩
theorem lw_p19 : lw_okq (⟨"KnivesGround$Text", "add", "(III)I"⟩, 6) := ⟨⟨by decide +kernel, by decide +kernel⟩, List.mem_of_getElem? (i := 28) (by decide +kernel), List.mem_of_getElem? (i := 419) (by decide +kernel), List.mem_of_getElem? (i := 420) (by decide +kernel)⟩
theorem lw_p20 : lw_okq (⟨"KnivesGround$Reader", "nameOf", "(I)I"⟩, 5) := ⟨⟨by decide +kernel, by decide +kernel⟩, List.mem_of_getElem? (i := 177) (by decide +kernel), List.mem_of_getElem? (i := 423) (by decide +kernel), List.mem_of_getElem? (i := 424) (by decide +kernel)⟩
theorem lw_p21 : lw_okq (⟨"KnivesGround$Reader", "readNot", "(I)I"⟩, 5) := ⟨⟨by decide +kernel, by decide +kernel⟩, List.mem_of_getElem? (i := 177) (by decide +kernel), List.mem_of_getElem? (i := 427) (by decide +kernel), List.mem_of_getElem? (i := 428) (by decide +kernel)⟩
theorem lw_p22 : lw_okq (⟨"KnivesGround$Reader", "readBrackets", "(I)I"⟩, 5) := ⟨⟨by decide +kernel, by decide +kernel⟩, List.mem_of_getElem? (i := 177) (by decide +kernel), List.mem_of_getElem? (i := 431) (by decide +kernel), List.mem_of_getElem? (i := 432) (by decide +kernel)⟩
theorem lw_p23 : lw_okq (⟨"KnivesGround$Reader", "stop", "()I"⟩, 5) := ⟨⟨by decide +kernel, by decide +kernel⟩, List.mem_of_getElem? (i := 177) (by decide +kernel), List.mem_of_getElem? (i := 435) (by decide +kernel), List.mem_of_getElem? (i := 436) (by decide +kernel)⟩
theorem lw_p24 : lw_okq (⟨"KnivesGround$Whole", "textOf", "(I)LKnivesGround$Text;"⟩, 8) := ⟨⟨by decide +kernel, by decide +kernel⟩, List.mem_of_getElem? (i := 22) (by decide +kernel), List.mem_of_getElem? (i := 442) (by decide +kernel), List.mem_of_getElem? (i := 443) (by decide +kernel)⟩
theorem lw_p25 : lw_okq (⟨"KnivesGround$Text", "copyFrom", "(LKnivesGround$Text;)V"⟩, 6) := ⟨⟨by decide +kernel, by decide +kernel⟩, List.mem_of_getElem? (i := 28) (by decide +kernel), List.mem_of_getElem? (i := 446) (by decide +kernel), List.mem_of_getElem? (i := 447) (by decide +kernel)⟩
theorem lw_p26 : lw_okq (⟨"KnivesGround$Ground", "passDay", "(Z)V"⟩, 9) := ⟨⟨by decide +kernel, by decide +kernel⟩, List.mem_of_getElem? (i := 55) (by decide +kernel), List.mem_of_getElem? (i := 461) (by decide +kernel), List.mem_of_getElem? (i := 462) (by decide +kernel)⟩
theorem lw_p27 : lw_okq (⟨"KnivesGround$Ground", "grindArea", "()V"⟩, 9) := ⟨⟨by decide +kernel, by decide +kernel⟩, List.mem_of_getElem? (i := 55) (by decide +kernel), List.mem_of_getElem? (i := 465) (by decide +kernel), List.mem_of_getElem? (i := 466) (by decide +kernel)⟩
theorem lw_p28 : lw_okq (⟨"KnivesGround$Ground", "restDay", "(Z)V"⟩, 9) := ⟨⟨by decide +kernel, by decide +kernel⟩, List.mem_of_getElem? (i := 55) (by decide +kernel), List.mem_of_getElem? (i := 472) (by decide +kernel), List.mem_of_getElem? (i := 473) (by decide +kernel)⟩
theorem lw_p29 : lw_okq (⟨"KnivesGround$Ground", "endOrDull", "(Z)V"⟩, 9) := ⟨⟨by decide +kernel, by decide +kernel⟩, List.mem_of_getElem? (i := 55) (by decide +kernel), List.mem_of_getElem? (i := 476) (by decide +kernel), List.mem_of_getElem? (i := 477) (by decide +kernel)⟩
theorem lw_p30 : lw_okq (⟨"KnivesGround$Ground", "isFree", "(LKnivesGround$One;)Z"⟩, 9) := ⟨⟨by decide +kernel, by decide +kernel⟩, List.mem_of_getElem? (i := 55) (by decide +kernel), List.mem_of_getElem? (i := 481) (by decide +kernel), List.mem_of_getElem? (i := 482) (by decide +kernel)⟩
theorem lw_p31 : lw_okq (⟨"KnivesGround$Ground", "endedMany", "()I"⟩, 9) := ⟨⟨by decide +kernel, by decide +kernel⟩, List.mem_of_getElem? (i := 55) (by decide +kernel), List.mem_of_getElem? (i := 488) (by decide +kernel), List.mem_of_getElem? (i := 489) (by decide +kernel)⟩
def lw_privs_2 : List (MethodName × Nat) := [(⟨"KnivesGround$Reader", "readInnermost", "(I)I"⟩, 5), (⟨"KnivesGround$Reader", "next", "()I"⟩, 5), (⟨"KnivesGround$Reader", "readNumber", "()I"⟩, 5), (⟨"KnivesGround$Text", "add", "(III)I"⟩, 6), (⟨"KnivesGround$Reader", "nameOf", "(I)I"⟩, 5), (⟨"KnivesGround$Reader", "readNot", "(I)I"⟩, 5), (⟨"KnivesGround$Reader", "readBrackets", "(I)I"⟩, 5), (⟨"KnivesGround$Reader", "stop", "()I"⟩, 5), (⟨"KnivesGround$Whole", "textOf", "(I)LKnivesGround$Text;"⟩, 8), (⟨"KnivesGround$Text", "copyFrom", "(LKnivesGround$Text;)V"⟩, 6), (⟨"KnivesGround$Ground", "passDay", "(Z)V"⟩, 9), (⟨"KnivesGround$Ground", "grindArea", "()V"⟩, 9), (⟨"KnivesGround$Ground", "restDay", "(Z)V"⟩, 9), (⟨"KnivesGround$Ground", "endOrDull", "(Z)V"⟩, 9), (⟨"KnivesGround$Ground", "isFree", "(LKnivesGround$One;)Z"⟩, 9), (⟨"KnivesGround$Ground", "endedMany", "()I"⟩, 9)]
theorem lw_r2 : ∀ q ∈ lw_privs_2, lw_okq q := List.forall_mem_cons.mpr ⟨lw_p16, List.forall_mem_cons.mpr ⟨lw_p17, List.forall_mem_cons.mpr ⟨lw_p18, List.forall_mem_cons.mpr ⟨lw_p19, List.forall_mem_cons.mpr ⟨lw_p20, List.forall_mem_cons.mpr ⟨lw_p21, List.forall_mem_cons.mpr ⟨lw_p22, List.forall_mem_cons.mpr ⟨lw_p23, List.forall_mem_cons.mpr ⟨lw_p24, List.forall_mem_cons.mpr ⟨lw_p25, List.forall_mem_cons.mpr ⟨lw_p26, List.forall_mem_cons.mpr ⟨lw_p27, List.forall_mem_cons.mpr ⟨lw_p28, List.forall_mem_cons.mpr ⟨lw_p29, List.forall_mem_cons.mpr ⟨lw_p30, List.forall_mem_cons.mpr ⟨lw_p31, fun _ h => absurd h List.not_mem_nil⟩⟩⟩⟩⟩⟩⟩⟩⟩⟩⟩⟩⟩⟩⟩⟩
theorem lw_p32 : lw_okq (⟨"KnivesGround$Ground", "setEnded", "()I"⟩, 9) := ⟨⟨by decide +kernel, by decide +kernel⟩, List.mem_of_getElem? (i := 55) (by decide +kernel), List.mem_of_getElem? (i := 492) (by decide +kernel), List.mem_of_getElem? (i := 493) (by decide +kernel)⟩
theorem lw_p33 : lw_okq (⟨"KnivesGround$Whole", "draw", "()I"⟩, 8) := ⟨⟨by decide +kernel, by decide +kernel⟩, List.mem_of_getElem? (i := 22) (by decide +kernel), List.mem_of_getElem? (i := 506) (by decide +kernel), List.mem_of_getElem? (i := 507) (by decide +kernel)⟩
theorem lw_p34 : lw_okq (⟨"KnivesGround", "think", "()V"⟩, 8) := ⟨⟨by decide +kernel, by decide +kernel⟩, List.mem_of_getElem? (i := 14) (by decide +kernel), List.mem_of_getElem? (i := 515) (by decide +kernel), List.mem_of_getElem? (i := 516) (by decide +kernel)⟩
theorem lw_p35 : lw_okq (⟨"KnivesGround$Ground", "copyFrom", "(LKnivesGround$Ground;)V"⟩, 9) := ⟨⟨by decide +kernel, by decide +kernel⟩, List.mem_of_getElem? (i := 55) (by decide +kernel), List.mem_of_getElem? (i := 519) (by decide +kernel), List.mem_of_getElem? (i := 520) (by decide +kernel)⟩
theorem lw_p36 : lw_okq (⟨"KnivesGround$One", "copyFrom", "(LKnivesGround$One;)V"⟩, 7) := ⟨⟨by decide +kernel, by decide +kernel⟩, List.mem_of_getElem? (i := 62) (by decide +kernel), List.mem_of_getElem? (i := 523) (by decide +kernel), List.mem_of_getElem? (i := 524) (by decide +kernel)⟩
theorem lw_p37 : lw_okq (⟨"KnivesGround", "thinkDays", "(I)V"⟩, 8) := ⟨⟨by decide +kernel, by decide +kernel⟩, List.mem_of_getElem? (i := 14) (by decide +kernel), List.mem_of_getElem? (i := 527) (by decide +kernel), List.mem_of_getElem? (i := 528) (by decide +kernel)⟩
theorem lw_p38 : lw_okq (⟨"KnivesGround$Ground", "setItHangsOn", "(I)I"⟩, 9) := ⟨⟨by decide +kernel, by decide +kernel⟩, List.mem_of_getElem? (i := 55) (by decide +kernel), List.mem_of_getElem? (i := 553) (by decide +kernel), List.mem_of_getElem? (i := 554) (by decide +kernel)⟩
theorem lw_p39 : lw_okq (⟨"KnivesGround$Ground", "sharpen", "(I)V"⟩, 9) := ⟨⟨by decide +kernel, by decide +kernel⟩, List.mem_of_getElem? (i := 55) (by decide +kernel), List.mem_of_getElem? (i := 558) (by decide +kernel), List.mem_of_getElem? (i := 559) (by decide +kernel)⟩
theorem lw_p40 : lw_okq (⟨"KnivesGround", "endsInThought", "(II)Z"⟩, 8) := ⟨⟨by decide +kernel, by decide +kernel⟩, List.mem_of_getElem? (i := 14) (by decide +kernel), List.mem_of_getElem? (i := 562) (by decide +kernel), List.mem_of_getElem? (i := 563) (by decide +kernel)⟩
theorem lw_p41 : lw_okq (⟨"KnivesGround", "thinkDaysWithHarm", "(I)V"⟩, 8) := ⟨⟨by decide +kernel, by decide +kernel⟩, List.mem_of_getElem? (i := 14) (by decide +kernel), List.mem_of_getElem? (i := 570) (by decide +kernel), List.mem_of_getElem? (i := 571) (by decide +kernel)⟩
theorem lw_p42 : lw_okq (⟨"KnivesGround$Sheet", "isMissing", "()Z"⟩, 3) := ⟨⟨by decide +kernel, by decide +kernel⟩, List.mem_of_getElem? (i := 227) (by decide +kernel), List.mem_of_getElem? (i := 581) (by decide +kernel), List.mem_of_getElem? (i := 582) (by decide +kernel)⟩
theorem lw_p43 : lw_okq (⟨"KnivesGround$Ground", "hasEdges", "(LKnivesGround$Sheet;)Z"⟩, 9) := ⟨⟨by decide +kernel, by decide +kernel⟩, List.mem_of_getElem? (i := 55) (by decide +kernel), List.mem_of_getElem? (i := 585) (by decide +kernel), List.mem_of_getElem? (i := 586) (by decide +kernel)⟩
theorem lw_p44 : lw_okq (⟨"KnivesGround$Ground", "setHangingOn", "(I)I"⟩, 9) := ⟨⟨by decide +kernel, by decide +kernel⟩, List.mem_of_getElem? (i := 55) (by decide +kernel), List.mem_of_getElem? (i := 609) (by decide +kernel), List.mem_of_getElem? (i := 610) (by decide +kernel)⟩
theorem lw_p45 : lw_okq (⟨"KnivesGround$Ground", "setFree", "()I"⟩, 9) := ⟨⟨by decide +kernel, by decide +kernel⟩, List.mem_of_getElem? (i := 55) (by decide +kernel), List.mem_of_getElem? (i := 621) (by decide +kernel), List.mem_of_getElem? (i := 622) (by decide +kernel)⟩
theorem lw_p46 : lw_okq (⟨"KnivesGround$Voices", "beginWith", "(III)V"⟩, 5) := ⟨⟨by decide +kernel, by decide +kernel⟩, List.mem_of_getElem? (i := 202) (by decide +kernel), List.mem_of_getElem? (i := 640) (by decide +kernel), List.mem_of_getElem? (i := 641) (by decide +kernel)⟩
theorem lw_p47 : lw_okq (⟨"KnivesGround$Voices", "say", "(II)I"⟩, 5) := ⟨⟨by decide +kernel, by decide +kernel⟩, List.mem_of_getElem? (i := 202) (by decide +kernel), List.mem_of_getElem? (i := 644) (by decide +kernel), List.mem_of_getElem? (i := 645) (by decide +kernel)⟩
def lw_privs_3 : List (MethodName × Nat) := [(⟨"KnivesGround$Ground", "setEnded", "()I"⟩, 9), (⟨"KnivesGround$Whole", "draw", "()I"⟩, 8), (⟨"KnivesGround", "think", "()V"⟩, 8), (⟨"KnivesGround$Ground", "copyFrom", "(LKnivesGround$Ground;)V"⟩, 9), (⟨"KnivesGround$One", "copyFrom", "(LKnivesGround$One;)V"⟩, 7), (⟨"KnivesGround", "thinkDays", "(I)V"⟩, 8), (⟨"KnivesGround$Ground", "setItHangsOn", "(I)I"⟩, 9), (⟨"KnivesGround$Ground", "sharpen", "(I)V"⟩, 9), (⟨"KnivesGround", "endsInThought", "(II)Z"⟩, 8), (⟨"KnivesGround", "thinkDaysWithHarm", "(I)V"⟩, 8), (⟨"KnivesGround$Sheet", "isMissing", "()Z"⟩, 3), (⟨"KnivesGround$Ground", "hasEdges", "(LKnivesGround$Sheet;)Z"⟩, 9), (⟨"KnivesGround$Ground", "setHangingOn", "(I)I"⟩, 9), (⟨"KnivesGround$Ground", "setFree", "()I"⟩, 9), (⟨"KnivesGround$Voices", "beginWith", "(III)V"⟩, 5), (⟨"KnivesGround$Voices", "say", "(II)I"⟩, 5)]
theorem lw_r3 : ∀ q ∈ lw_privs_3, lw_okq q := List.forall_mem_cons.mpr ⟨lw_p32, List.forall_mem_cons.mpr ⟨lw_p33, List.forall_mem_cons.mpr ⟨lw_p34, List.forall_mem_cons.mpr ⟨lw_p35, List.forall_mem_cons.mpr ⟨lw_p36, List.forall_mem_cons.mpr ⟨lw_p37, List.forall_mem_cons.mpr ⟨lw_p38, List.forall_mem_cons.mpr ⟨lw_p39, List.forall_mem_cons.mpr ⟨lw_p40, List.forall_mem_cons.mpr ⟨lw_p41, List.forall_mem_cons.mpr ⟨lw_p42, List.forall_mem_cons.mpr ⟨lw_p43, List.forall_mem_cons.mpr ⟨lw_p44, List.forall_mem_cons.mpr ⟨lw_p45, List.forall_mem_cons.mpr ⟨lw_p46, List.forall_mem_cons.mpr ⟨lw_p47, fun _ h => absurd h List.not_mem_nil⟩⟩⟩⟩⟩⟩⟩⟩⟩⟩⟩⟩⟩⟩⟩⟩
theorem lw_p48 : lw_okq (⟨"KnivesGround$Voices", "sayGrinds", "(II)I"⟩, 5) := ⟨⟨by decide +kernel, by decide +kernel⟩, List.mem_of_getElem? (i := 202) (by decide +kernel), List.mem_of_getElem? (i := 648) (by decide +kernel), List.mem_of_getElem? (i := 649) (by decide +kernel)⟩
theorem lw_p49 : lw_okq (⟨"KnivesGround$Voices", "begin", "(I)V"⟩, 5) := ⟨⟨by decide +kernel, by decide +kernel⟩, List.mem_of_getElem? (i := 202) (by decide +kernel), List.mem_of_getElem? (i := 652) (by decide +kernel), List.mem_of_getElem? (i := 653) (by decide +kernel)⟩
theorem lw_p50 : lw_okq (⟨"KnivesGround$Voices", "sayCuts", "(II)I"⟩, 5) := ⟨⟨by decide +kernel, by decide +kernel⟩, List.mem_of_getElem? (i := 202) (by decide +kernel), List.mem_of_getElem? (i := 656) (by decide +kernel), List.mem_of_getElem? (i := 657) (by decide +kernel)⟩
theorem lw_p51 : lw_okq (⟨"KnivesGround$Voices", "saySparks", "(II)I"⟩, 5) := ⟨⟨by decide +kernel, by decide +kernel⟩, List.mem_of_getElem? (i := 202) (by decide +kernel), List.mem_of_getElem? (i := 660) (by decide +kernel), List.mem_of_getElem? (i := 661) (by decide +kernel)⟩
theorem lw_p52 : lw_okq (⟨"KnivesGround$Voices", "sayTells", "(II)I"⟩, 5) := ⟨⟨by decide +kernel, by decide +kernel⟩, List.mem_of_getElem? (i := 202) (by decide +kernel), List.mem_of_getElem? (i := 664) (by decide +kernel), List.mem_of_getElem? (i := 665) (by decide +kernel)⟩
theorem lw_p53 : lw_okq (⟨"KnivesGround$Sheet", "lay", "(II)V"⟩, 3) := ⟨⟨by decide +kernel, by decide +kernel⟩, List.mem_of_getElem? (i := 227) (by decide +kernel), List.mem_of_getElem? (i := 676) (by decide +kernel), List.mem_of_getElem? (i := 677) (by decide +kernel)⟩
theorem lw_p54 : lw_okq (⟨"KnivesGround$Sheet", "write", "(II)V"⟩, 3) := ⟨⟨by decide +kernel, by decide +kernel⟩, List.mem_of_getElem? (i := 227) (by decide +kernel), List.mem_of_getElem? (i := 684) (by decide +kernel), List.mem_of_getElem? (i := 685) (by decide +kernel)⟩
theorem lw_p55 : lw_okq (⟨"KnivesGround$Sheet", "hasNumbers", "(II)Z"⟩, 3) := ⟨⟨by decide +kernel, by decide +kernel⟩, List.mem_of_getElem? (i := 227) (by decide +kernel), List.mem_of_getElem? (i := 692) (by decide +kernel), List.mem_of_getElem? (i := 693) (by decide +kernel)⟩
theorem lw_p56 : lw_okq (⟨"KnivesGround$Whole", "copyFrom", "(LKnivesGround$Whole;)V"⟩, 8) := ⟨⟨by decide +kernel, by decide +kernel⟩, List.mem_of_getElem? (i := 22) (by decide +kernel), List.mem_of_getElem? (i := 710) (by decide +kernel), List.mem_of_getElem? (i := 711) (by decide +kernel)⟩
theorem lw_p57 : lw_okq (⟨"KnivesGround$Ground", "edgesTogether", "()I"⟩, 9) := ⟨⟨by decide +kernel, by decide +kernel⟩, List.mem_of_getElem? (i := 55) (by decide +kernel), List.mem_of_getElem? (i := 733) (by decide +kernel), List.mem_of_getElem? (i := 734) (by decide +kernel)⟩
theorem lw_p58 : lw_okq (⟨"KnivesGroundModel", "becomes", "(II)I"⟩, 24) := ⟨⟨by decide +kernel, by decide +kernel⟩, List.mem_of_getElem? (i := 741) (by decide +kernel), List.mem_of_getElem? (i := 831) (by decide +kernel), List.mem_of_getElem? (i := 832) (by decide +kernel)⟩
theorem lw_p59 : lw_okq (⟨"KnivesGroundModel", "errs", "(I)I"⟩, 24) := ⟨⟨by decide +kernel, by decide +kernel⟩, List.mem_of_getElem? (i := 741) (by decide +kernel), List.mem_of_getElem? (i := 836) (by decide +kernel), List.mem_of_getElem? (i := 837) (by decide +kernel)⟩
theorem lw_p60 : lw_okq (⟨"KnivesGroundModel", "its", "(II)I"⟩, 24) := ⟨⟨by decide +kernel, by decide +kernel⟩, List.mem_of_getElem? (i := 741) (by decide +kernel), List.mem_of_getElem? (i := 845) (by decide +kernel), List.mem_of_getElem? (i := 846) (by decide +kernel)⟩
theorem lw_p61 : lw_okq (⟨"KnivesGroundModel", "gets", "(III)V"⟩, 24) := ⟨⟨by decide +kernel, by decide +kernel⟩, List.mem_of_getElem? (i := 741) (by decide +kernel), List.mem_of_getElem? (i := 854) (by decide +kernel), List.mem_of_getElem? (i := 855) (by decide +kernel)⟩
theorem lw_p62 : lw_okq (⟨"KnivesGroundModel", "isQuarrel", "(I)Z"⟩, 24) := ⟨⟨by decide +kernel, by decide +kernel⟩, List.mem_of_getElem? (i := 741) (by decide +kernel), List.mem_of_getElem? (i := 862) (by decide +kernel), List.mem_of_getElem? (i := 863) (by decide +kernel)⟩
theorem lw_p63 : lw_okq (⟨"KnivesGroundModel", "gains", "(I)I"⟩, 24) := ⟨⟨by decide +kernel, by decide +kernel⟩, List.mem_of_getElem? (i := 741) (by decide +kernel), List.mem_of_getElem? (i := 866) (by decide +kernel), List.mem_of_getElem? (i := 867) (by decide +kernel)⟩
def lw_privs_4 : List (MethodName × Nat) := [(⟨"KnivesGround$Voices", "sayGrinds", "(II)I"⟩, 5), (⟨"KnivesGround$Voices", "begin", "(I)V"⟩, 5), (⟨"KnivesGround$Voices", "sayCuts", "(II)I"⟩, 5), (⟨"KnivesGround$Voices", "saySparks", "(II)I"⟩, 5), (⟨"KnivesGround$Voices", "sayTells", "(II)I"⟩, 5), (⟨"KnivesGround$Sheet", "lay", "(II)V"⟩, 3), (⟨"KnivesGround$Sheet", "write", "(II)V"⟩, 3), (⟨"KnivesGround$Sheet", "hasNumbers", "(II)Z"⟩, 3), (⟨"KnivesGround$Whole", "copyFrom", "(LKnivesGround$Whole;)V"⟩, 8), (⟨"KnivesGround$Ground", "edgesTogether", "()I"⟩, 9), (⟨"KnivesGroundModel", "becomes", "(II)I"⟩, 24), (⟨"KnivesGroundModel", "errs", "(I)I"⟩, 24), (⟨"KnivesGroundModel", "its", "(II)I"⟩, 24), (⟨"KnivesGroundModel", "gets", "(III)V"⟩, 24), (⟨"KnivesGroundModel", "isQuarrel", "(I)Z"⟩, 24), (⟨"KnivesGroundModel", "gains", "(I)I"⟩, 24)]
theorem lw_r4 : ∀ q ∈ lw_privs_4, lw_okq q := List.forall_mem_cons.mpr ⟨lw_p48, List.forall_mem_cons.mpr ⟨lw_p49, List.forall_mem_cons.mpr ⟨lw_p50, List.forall_mem_cons.mpr ⟨lw_p51, List.forall_mem_cons.mpr ⟨lw_p52, List.forall_mem_cons.mpr ⟨lw_p53, List.forall_mem_cons.mpr ⟨lw_p54, List.forall_mem_cons.mpr ⟨lw_p55, List.forall_mem_cons.mpr ⟨lw_p56, List.forall_mem_cons.mpr ⟨lw_p57, List.forall_mem_cons.mpr ⟨lw_p58, List.forall_mem_cons.mpr ⟨lw_p59, List.forall_mem_cons.mpr ⟨lw_p60, List.forall_mem_cons.mpr ⟨lw_p61, List.forall_mem_cons.mpr ⟨lw_p62, List.forall_mem_cons.mpr ⟨lw_p63, fun _ h => absurd h List.not_mem_nil⟩⟩⟩⟩⟩⟩⟩⟩⟩⟩⟩⟩⟩⟩⟩⟩
theorem lw_p64 : lw_okq (⟨"KnivesGroundModel", "lawOf", "(IIII)I"⟩, 24) := ⟨⟨by decide +kernel, by decide +kernel⟩, List.mem_of_getElem? (i := 741) (by decide +kernel), List.mem_of_getElem? (i := 870) (by decide +kernel), List.mem_of_getElem? (i := 871) (by decide +kernel)⟩
theorem lw_p65 : lw_okq (⟨"KnivesGroundModel", "walks", "(IIII)I"⟩, 24) := ⟨⟨by decide +kernel, by decide +kernel⟩, List.mem_of_getElem? (i := 741) (by decide +kernel), List.mem_of_getElem? (i := 874) (by decide +kernel), List.mem_of_getElem? (i := 875) (by decide +kernel)⟩
theorem lw_p66 : lw_okq (⟨"KnivesGroundModel", "needs", "(I)I"⟩, 24) := ⟨⟨by decide +kernel, by decide +kernel⟩, List.mem_of_getElem? (i := 741) (by decide +kernel), List.mem_of_getElem? (i := 884) (by decide +kernel), List.mem_of_getElem? (i := 885) (by decide +kernel)⟩
theorem lw_p67 : lw_okq (⟨"KnivesGroundModel", "dulls", "(I)I"⟩, 24) := ⟨⟨by decide +kernel, by decide +kernel⟩, List.mem_of_getElem? (i := 741) (by decide +kernel), List.mem_of_getElem? (i := 888) (by decide +kernel), List.mem_of_getElem? (i := 889) (by decide +kernel)⟩
theorem lw_p68 : lw_okq (⟨"KnivesGroundModel", "whole", "()V"⟩, 24) := ⟨⟨by decide +kernel, by decide +kernel⟩, List.mem_of_getElem? (i := 741) (by decide +kernel), List.mem_of_getElem? (i := 921) (by decide +kernel), List.mem_of_getElem? (i := 922) (by decide +kernel)⟩
theorem lw_p69 : lw_okq (⟨"KnivesGroundModel", "both", "()V"⟩, 24) := ⟨⟨by decide +kernel, by decide +kernel⟩, List.mem_of_getElem? (i := 741) (by decide +kernel), List.mem_of_getElem? (i := 925) (by decide +kernel), List.mem_of_getElem? (i := 926) (by decide +kernel)⟩
theorem lw_p70 : lw_okq (⟨"KnivesGroundModel", "compared", "()V"⟩, 24) := ⟨⟨by decide +kernel, by decide +kernel⟩, List.mem_of_getElem? (i := 741) (by decide +kernel), List.mem_of_getElem? (i := 929) (by decide +kernel), List.mem_of_getElem? (i := 930) (by decide +kernel)⟩
theorem lw_p71 : lw_okq (⟨"KnivesGroundModel", "sum", "()V"⟩, 24) := ⟨⟨by decide +kernel, by decide +kernel⟩, List.mem_of_getElem? (i := 741) (by decide +kernel), List.mem_of_getElem? (i := 933) (by decide +kernel), List.mem_of_getElem? (i := 934) (by decide +kernel)⟩
theorem lw_p72 : lw_okq (⟨"KnivesGroundModel", "product", "()V"⟩, 24) := ⟨⟨by decide +kernel, by decide +kernel⟩, List.mem_of_getElem? (i := 741) (by decide +kernel), List.mem_of_getElem? (i := 937) (by decide +kernel), List.mem_of_getElem? (i := 938) (by decide +kernel)⟩
theorem lw_p73 : lw_okq (⟨"KnivesGroundModel", "factor", "()V"⟩, 24) := ⟨⟨by decide +kernel, by decide +kernel⟩, List.mem_of_getElem? (i := 741) (by decide +kernel), List.mem_of_getElem? (i := 941) (by decide +kernel), List.mem_of_getElem? (i := 942) (by decide +kernel)⟩
theorem lw_p74 : lw_okq (⟨"KnivesGroundModel", "byteAt", "(I)I"⟩, 24) := ⟨⟨by decide +kernel, by decide +kernel⟩, List.mem_of_getElem? (i := 741) (by decide +kernel), List.mem_of_getElem? (i := 945) (by decide +kernel), List.mem_of_getElem? (i := 946) (by decide +kernel)⟩
theorem lw_p75 : lw_okq (⟨"KnivesGroundModel", "number", "()V"⟩, 24) := ⟨⟨by decide +kernel, by decide +kernel⟩, List.mem_of_getElem? (i := 741) (by decide +kernel), List.mem_of_getElem? (i := 952) (by decide +kernel), List.mem_of_getElem? (i := 953) (by decide +kernel)⟩
theorem lw_p76 : lw_okq (⟨"KnivesGroundModel", "adds", "(I)V"⟩, 24) := ⟨⟨by decide +kernel, by decide +kernel⟩, List.mem_of_getElem? (i := 741) (by decide +kernel), List.mem_of_getElem? (i := 956) (by decide +kernel), List.mem_of_getElem? (i := 957) (by decide +kernel)⟩
theorem lw_p77 : lw_okq (⟨"KnivesGroundModel", "named", "(I)V"⟩, 24) := ⟨⟨by decide +kernel, by decide +kernel⟩, List.mem_of_getElem? (i := 741) (by decide +kernel), List.mem_of_getElem? (i := 960) (by decide +kernel), List.mem_of_getElem? (i := 961) (by decide +kernel)⟩
theorem lw_p78 : lw_okq (⟨"KnivesGroundModel", "passes", "(I)V"⟩, 24) := ⟨⟨by decide +kernel, by decide +kernel⟩, List.mem_of_getElem? (i := 741) (by decide +kernel), List.mem_of_getElem? (i := 969) (by decide +kernel), List.mem_of_getElem? (i := 970) (by decide +kernel)⟩
theorem lw_p79 : lw_okq (⟨"KnivesGroundModel", "oneDay", "(Z)V"⟩, 24) := ⟨⟨by decide +kernel, by decide +kernel⟩, List.mem_of_getElem? (i := 741) (by decide +kernel), List.mem_of_getElem? (i := 973) (by decide +kernel), List.mem_of_getElem? (i := 974) (by decide +kernel)⟩
def lw_privs_5 : List (MethodName × Nat) := [(⟨"KnivesGroundModel", "lawOf", "(IIII)I"⟩, 24), (⟨"KnivesGroundModel", "walks", "(IIII)I"⟩, 24), (⟨"KnivesGroundModel", "needs", "(I)I"⟩, 24), (⟨"KnivesGroundModel", "dulls", "(I)I"⟩, 24), (⟨"KnivesGroundModel", "whole", "()V"⟩, 24), (⟨"KnivesGroundModel", "both", "()V"⟩, 24), (⟨"KnivesGroundModel", "compared", "()V"⟩, 24), (⟨"KnivesGroundModel", "sum", "()V"⟩, 24), (⟨"KnivesGroundModel", "product", "()V"⟩, 24), (⟨"KnivesGroundModel", "factor", "()V"⟩, 24), (⟨"KnivesGroundModel", "byteAt", "(I)I"⟩, 24), (⟨"KnivesGroundModel", "number", "()V"⟩, 24), (⟨"KnivesGroundModel", "adds", "(I)V"⟩, 24), (⟨"KnivesGroundModel", "named", "(I)V"⟩, 24), (⟨"KnivesGroundModel", "passes", "(I)V"⟩, 24), (⟨"KnivesGroundModel", "oneDay", "(Z)V"⟩, 24)]
theorem lw_r5 : ∀ q ∈ lw_privs_5, lw_okq q := List.forall_mem_cons.mpr ⟨lw_p64, List.forall_mem_cons.mpr ⟨lw_p65, List.forall_mem_cons.mpr ⟨lw_p66, List.forall_mem_cons.mpr ⟨lw_p67, List.forall_mem_cons.mpr ⟨lw_p68, List.forall_mem_cons.mpr ⟨lw_p69, List.forall_mem_cons.mpr ⟨lw_p70, List.forall_mem_cons.mpr ⟨lw_p71, List.forall_mem_cons.mpr ⟨lw_p72, List.forall_mem_cons.mpr ⟨lw_p73, List.forall_mem_cons.mpr ⟨lw_p74, List.forall_mem_cons.mpr ⟨lw_p75, List.forall_mem_cons.mpr ⟨lw_p76, List.forall_mem_cons.mpr ⟨lw_p77, List.forall_mem_cons.mpr ⟨lw_p78, List.forall_mem_cons.mpr ⟨lw_p79, fun _ h => absurd h List.not_mem_nil⟩⟩⟩⟩⟩⟩⟩⟩⟩⟩⟩⟩⟩⟩⟩⟩
theorem lw_p80 : lw_okq (⟨"KnivesGroundModel", "grindsAll", "()V"⟩, 24) := ⟨⟨by decide +kernel, by decide +kernel⟩, List.mem_of_getElem? (i := 741) (by decide +kernel), List.mem_of_getElem? (i := 977) (by decide +kernel), List.mem_of_getElem? (i := 978) (by decide +kernel)⟩
theorem lw_p81 : lw_okq (⟨"KnivesGroundModel", "isOver", "(I)Z"⟩, 24) := ⟨⟨by decide +kernel, by decide +kernel⟩, List.mem_of_getElem? (i := 741) (by decide +kernel), List.mem_of_getElem? (i := 981) (by decide +kernel), List.mem_of_getElem? (i := 982) (by decide +kernel)⟩
theorem lw_p82 : lw_okq (⟨"KnivesGroundModel", "goesOn", "(I)V"⟩, 24) := ⟨⟨by decide +kernel, by decide +kernel⟩, List.mem_of_getElem? (i := 741) (by decide +kernel), List.mem_of_getElem? (i := 985) (by decide +kernel), List.mem_of_getElem? (i := 986) (by decide +kernel)⟩
theorem lw_p83 : lw_okq (⟨"KnivesGroundModel", "isLoose", "(I)Z"⟩, 24) := ⟨⟨by decide +kernel, by decide +kernel⟩, List.mem_of_getElem? (i := 741) (by decide +kernel), List.mem_of_getElem? (i := 989) (by decide +kernel), List.mem_of_getElem? (i := 990) (by decide +kernel)⟩
theorem lw_p84 : lw_okq (⟨"KnivesGroundModel", "overSet", "()I"⟩, 24) := ⟨⟨by decide +kernel, by decide +kernel⟩, List.mem_of_getElem? (i := 741) (by decide +kernel), List.mem_of_getElem? (i := 993) (by decide +kernel), List.mem_of_getElem? (i := 994) (by decide +kernel)⟩
theorem lw_p85 : lw_okq (⟨"KnivesGroundModel", "drawn", "(I)I"⟩, 24) := ⟨⟨by decide +kernel, by decide +kernel⟩, List.mem_of_getElem? (i := 741) (by decide +kernel), List.mem_of_getElem? (i := 1004) (by decide +kernel), List.mem_of_getElem? (i := 1005) (by decide +kernel)⟩
theorem lw_p86 : lw_okq (⟨"KnivesGroundModel", "moveAll", "([I[I)V"⟩, 24) := ⟨⟨by decide +kernel, by decide +kernel⟩, List.mem_of_getElem? (i := 741) (by decide +kernel), List.mem_of_getElem? (i := 1013) (by decide +kernel), List.mem_of_getElem? (i := 1014) (by decide +kernel)⟩
theorem lw_p87 : lw_okq (⟨"KnivesGroundModel", "overBehind", "(I)I"⟩, 24) := ⟨⟨by decide +kernel, by decide +kernel⟩, List.mem_of_getElem? (i := 741) (by decide +kernel), List.mem_of_getElem? (i := 1026) (by decide +kernel), List.mem_of_getElem? (i := 1027) (by decide +kernel)⟩
theorem lw_p88 : lw_okq (⟨"KnivesGroundModel", "mostOver", "(III)I"⟩, 24) := ⟨⟨by decide +kernel, by decide +kernel⟩, List.mem_of_getElem? (i := 741) (by decide +kernel), List.mem_of_getElem? (i := 1034) (by decide +kernel), List.mem_of_getElem? (i := 1035) (by decide +kernel)⟩
theorem lw_p89 : lw_okq (⟨"KnivesGroundModel", "isOverBy", "(III)Z"⟩, 24) := ⟨⟨by decide +kernel, by decide +kernel⟩, List.mem_of_getElem? (i := 741) (by decide +kernel), List.mem_of_getElem? (i := 1046) (by decide +kernel), List.mem_of_getElem? (i := 1047) (by decide +kernel)⟩
theorem lw_p90 : lw_okq (⟨"KnivesGroundModel", "areEdgesSo", "(I)Z"⟩, 24) := ⟨⟨by decide +kernel, by decide +kernel⟩, List.mem_of_getElem? (i := 741) (by decide +kernel), List.mem_of_getElem? (i := 1062) (by decide +kernel), List.mem_of_getElem? (i := 1063) (by decide +kernel)⟩
theorem lw_p91 : lw_okq (⟨"KnivesGroundModel", "grindsIn", "(II)I"⟩, 24) := ⟨⟨by decide +kernel, by decide +kernel⟩, List.mem_of_getElem? (i := 741) (by decide +kernel), List.mem_of_getElem? (i := 1105) (by decide +kernel), List.mem_of_getElem? (i := 1106) (by decide +kernel)⟩
theorem lw_p92 : lw_okq (⟨"KnivesGroundModel", "ran", "(I)V"⟩, 24) := ⟨⟨by decide +kernel, by decide +kernel⟩, List.mem_of_getElem? (i := 741) (by decide +kernel), List.mem_of_getElem? (i := 1109) (by decide +kernel), List.mem_of_getElem? (i := 1110) (by decide +kernel)⟩
theorem lw_p93 : lw_okq (⟨"KnivesGroundModel", "cutsIn", "(II)I"⟩, 24) := ⟨⟨by decide +kernel, by decide +kernel⟩, List.mem_of_getElem? (i := 741) (by decide +kernel), List.mem_of_getElem? (i := 1113) (by decide +kernel), List.mem_of_getElem? (i := 1114) (by decide +kernel)⟩
theorem lw_p94 : lw_okq (⟨"KnivesGroundModel", "sparksIn", "(II)I"⟩, 24) := ⟨⟨by decide +kernel, by decide +kernel⟩, List.mem_of_getElem? (i := 741) (by decide +kernel), List.mem_of_getElem? (i := 1117) (by decide +kernel), List.mem_of_getElem? (i := 1118) (by decide +kernel)⟩
theorem lw_p95 : lw_okq (⟨"KnivesGroundModel", "tellsIn", "(II)I"⟩, 24) := ⟨⟨by decide +kernel, by decide +kernel⟩, List.mem_of_getElem? (i := 741) (by decide +kernel), List.mem_of_getElem? (i := 1121) (by decide +kernel), List.mem_of_getElem? (i := 1122) (by decide +kernel)⟩
def lw_privs_6 : List (MethodName × Nat) := [(⟨"KnivesGroundModel", "grindsAll", "()V"⟩, 24), (⟨"KnivesGroundModel", "isOver", "(I)Z"⟩, 24), (⟨"KnivesGroundModel", "goesOn", "(I)V"⟩, 24), (⟨"KnivesGroundModel", "isLoose", "(I)Z"⟩, 24), (⟨"KnivesGroundModel", "overSet", "()I"⟩, 24), (⟨"KnivesGroundModel", "drawn", "(I)I"⟩, 24), (⟨"KnivesGroundModel", "moveAll", "([I[I)V"⟩, 24), (⟨"KnivesGroundModel", "overBehind", "(I)I"⟩, 24), (⟨"KnivesGroundModel", "mostOver", "(III)I"⟩, 24), (⟨"KnivesGroundModel", "isOverBy", "(III)Z"⟩, 24), (⟨"KnivesGroundModel", "areEdgesSo", "(I)Z"⟩, 24), (⟨"KnivesGroundModel", "grindsIn", "(II)I"⟩, 24), (⟨"KnivesGroundModel", "ran", "(I)V"⟩, 24), (⟨"KnivesGroundModel", "cutsIn", "(II)I"⟩, 24), (⟨"KnivesGroundModel", "sparksIn", "(II)I"⟩, 24), (⟨"KnivesGroundModel", "tellsIn", "(II)I"⟩, 24)]
theorem lw_r6 : ∀ q ∈ lw_privs_6, lw_okq q := List.forall_mem_cons.mpr ⟨lw_p80, List.forall_mem_cons.mpr ⟨lw_p81, List.forall_mem_cons.mpr ⟨lw_p82, List.forall_mem_cons.mpr ⟨lw_p83, List.forall_mem_cons.mpr ⟨lw_p84, List.forall_mem_cons.mpr ⟨lw_p85, List.forall_mem_cons.mpr ⟨lw_p86, List.forall_mem_cons.mpr ⟨lw_p87, List.forall_mem_cons.mpr ⟨lw_p88, List.forall_mem_cons.mpr ⟨lw_p89, List.forall_mem_cons.mpr ⟨lw_p90, List.forall_mem_cons.mpr ⟨lw_p91, List.forall_mem_cons.mpr ⟨lw_p92, List.forall_mem_cons.mpr ⟨lw_p93, List.forall_mem_cons.mpr ⟨lw_p94, List.forall_mem_cons.mpr ⟨lw_p95, fun _ h => absurd h List.not_mem_nil⟩⟩⟩⟩⟩⟩⟩⟩⟩⟩⟩⟩⟩⟩⟩⟩
theorem lw_p96 : lw_okq (⟨"KnivesGroundModel", "edgesOfAll", "()I"⟩, 24) := ⟨⟨by decide +kernel, by decide +kernel⟩, List.mem_of_getElem? (i := 741) (by decide +kernel), List.mem_of_getElem? (i := 1172) (by decide +kernel), List.mem_of_getElem? (i := 1173) (by decide +kernel)⟩
def lw_privs_7 : List (MethodName × Nat) := [(⟨"KnivesGroundModel", "edgesOfAll", "()I"⟩, 24)]
theorem lw_r7 : ∀ q ∈ lw_privs_7, lw_okq q := List.forall_mem_cons.mpr ⟨lw_p96, fun _ h => absurd h List.not_mem_nil⟩
def lw_privs : List (MethodName × Nat) := lw_privs_1 ++ (lw_privs_2 ++ (lw_privs_3 ++ (lw_privs_4 ++ (lw_privs_5 ++ (lw_privs_6 ++ (lw_privs_7))))))
def lw_tbl : List Cond := k2_sels lw_privs ++ tables_1
theorem lw_privs_ok : ∀ q ∈ lw_privs, lw_okq q := by
  show ∀ q ∈ lw_privs_1 ++ (lw_privs_2 ++ (lw_privs_3 ++ (lw_privs_4 ++ (lw_privs_5 ++ (lw_privs_6 ++ (lw_privs_7)))))), lw_okq q
  exact List.forall_mem_append.mpr ⟨lw_r1, List.forall_mem_append.mpr ⟨lw_r2, List.forall_mem_append.mpr ⟨lw_r3, List.forall_mem_append.mpr ⟨lw_r4, List.forall_mem_append.mpr ⟨lw_r5, List.forall_mem_append.mpr ⟨lw_r6, lw_r7⟩⟩⟩⟩⟩⟩
-- ===== end of PART A; then your names; then what follows =====
/-! ===== BEGIN words of one list among another's, by their places ===== -/
theorem goodIn_r {big : List Cond} (ws : List Cond) (ps : List Nat) (hp : ws = ps.filterMap (fun i => big[i]?)) (h : ws.all goodWord = true) : GoodIn big ws := by
  intro w hw
  have h1 := List.all_eq_true.mp h w hw
  rw [hp] at hw
  obtain ⟨i, -, hi⟩ := List.mem_filterMap.mp hw
  have hm : w ∈ big := by first | exact List.mem_of_getElem? hi | exact List.getElem?_mem hi
  exact ⟨hm, good_of_word h1⟩
theorem goodIn_app {big a b : List Cond} (ha : GoodIn big a) (hb : GoodIn big b) : GoodIn big (a ++ b) := fun w h => (List.mem_append.mp h).elim (ha w) (hb w)
theorem goodIn_ca {big a b : List Cond} {c : Cond} (ha : GoodIn big (c :: a)) (hb : GoodIn big b) : GoodIn big (c :: (a ++ b)) := fun w h => (List.mem_cons.mp h).elim (fun e => ha w (List.mem_cons.mpr (Or.inl e))) (fun h => (List.mem_append.mp h).elim (fun h => ha w (List.mem_cons.mpr (Or.inr h))) (hb w))
theorem goodIn_sub {big ws : List Cond} (hm : ∀ w ∈ ws, w ∈ big) (h : ws.all goodWord = true) : GoodIn big ws := fun w hw => ⟨hm w hw, good_of_word (List.all_eq_true.mp h w hw)⟩
/-! ===== END ===== -/

/-! ===== BEGIN printed: names, fields, word lists, decode rows ===== -/
def RX0 : String := "KnivesGround$Ground"
def TX0 : u_T := fun k => match k with
  | 0 => ("KnivesGround$Ground", "grinds", "LKnivesGround$Text;", true)
  | 1 => ("KnivesGround$Ground", "harms", "LKnivesGround$Text;", true)
  | 2 => ("KnivesGround$Ground", "ones", "[LKnivesGround$One;", true)
  | 3 => ("KnivesGround$Ground", "many", "I", false)
  | 4 => ("KnivesGround$Ground", "grinder", "I", false)
  | 5 => ("KnivesGround$Ground", "step", "I", false)
  | 6 => ("KnivesGround$Ground", "day", "I", false)
  | 7 => ("KnivesGround$Ground", "harm", "I", false)
  | _ => ("KnivesGround$Ground", "pence", "I", false)
def tyX0 : Nat → FieldType := fun k => match k with
  | 0 => .object "KnivesGround$Text"
  | 1 => .object "KnivesGround$Text"
  | 2 => .array (.object "KnivesGround$One")
  | 3 => .int
  | 4 => .int
  | 5 => .int
  | 6 => .int
  | 7 => .int
  | _ => .int
abbrev wsX00 : List Cond := u_ws RX0 TX0 9
theorem nmX0 : ∀ a, a < 9 → ∀ b, b < 9 → a ≠ b → (TX0 a).2.1 ≠ (TX0 b).2.1 := by decide +kernel
theorem tyX0_ok : ∀ k, k < 9 → parseFieldDescriptor (TX0 k).2.2.1 = some (tyX0 k) := by decide +kernel
abbrev cX0_init : ByteArray := prog_2_method_1_code
def yX0_init : MethodName := ⟨RX0, "<init>", "(LKnivesGround$Text;LKnivesGround$Text;)V"⟩
abbrev cX0_copyFrom : ByteArray := prog_2_method_2_code
def yX0_copyFrom : MethodName := ⟨RX0, "copyFrom", "(LKnivesGround$Ground;)V"⟩
abbrev cX0_setGrinder : ByteArray := prog_2_method_3_code
def yX0_setGrinder : MethodName := ⟨RX0, "setGrinder", "(II)I"⟩
abbrev cX0_passDay : ByteArray := prog_2_method_4_code
def yX0_passDay : MethodName := ⟨RX0, "passDay", "(Z)V"⟩
abbrev cX0_restDay : ByteArray := prog_2_method_5_code
def yX0_restDay : MethodName := ⟨RX0, "restDay", "(Z)V"⟩
abbrev cX0_grindArea : ByteArray := prog_2_method_6_code
def yX0_grindArea : MethodName := ⟨RX0, "grindArea", "()V"⟩
abbrev cX0_endOrDull : ByteArray := prog_2_method_7_code
def yX0_endOrDull : MethodName := ⟨RX0, "endOrDull", "(Z)V"⟩
abbrev cX0_gainsOf : ByteArray := prog_2_method_8_code
def yX0_gainsOf : MethodName := ⟨RX0, "gainsOf", "(LKnivesGround$One;)I"⟩
abbrev cX0_isFree : ByteArray := prog_2_method_9_code
def yX0_isFree : MethodName := ⟨RX0, "isFree", "(LKnivesGround$One;)Z"⟩
abbrev cX0_sharpen : ByteArray := prog_2_method_10_code
def yX0_sharpen : MethodName := ⟨RX0, "sharpen", "(I)V"⟩
abbrev cX0_hasEdges : ByteArray := prog_2_method_11_code
def yX0_hasEdges : MethodName := ⟨RX0, "hasEdges", "(LKnivesGround$Sheet;)Z"⟩
abbrev cX0_edgesTogether : ByteArray := prog_2_method_12_code
def yX0_edgesTogether : MethodName := ⟨RX0, "edgesTogether", "()I"⟩
abbrev cX0_endedMany : ByteArray := prog_2_method_13_code
def yX0_endedMany : MethodName := ⟨RX0, "endedMany", "()I"⟩
abbrev cX0_setEnded : ByteArray := prog_2_method_14_code
def yX0_setEnded : MethodName := ⟨RX0, "setEnded", "()I"⟩
abbrev cX0_setInArea : ByteArray := prog_2_method_15_code
def yX0_setInArea : MethodName := ⟨RX0, "setInArea", "(I)I"⟩
abbrev cX0_setFree : ByteArray := prog_2_method_16_code
def yX0_setFree : MethodName := ⟨RX0, "setFree", "()I"⟩
abbrev cX0_setHangingOn : ByteArray := prog_2_method_17_code
def yX0_setHangingOn : MethodName := ⟨RX0, "setHangingOn", "(I)I"⟩
abbrev cX0_setItHangsOn : ByteArray := prog_2_method_18_code
def yX0_setItHangsOn : MethodName := ⟨RX0, "setItHangsOn", "(I)I"⟩
def RX1 : String := "KnivesGround$One"
def TX1 : u_T := fun k => match k with
  | 0 => ("KnivesGround$One", "kind", "I", false)
  | 1 => ("KnivesGround$One", "m", "I", false)
  | 2 => ("KnivesGround$One", "area", "I", false)
  | 3 => ("KnivesGround$One", "edge", "I", false)
  | 4 => ("KnivesGround$One", "on", "I", false)
  | 5 => ("KnivesGround$One", "age", "I", false)
  | _ => ("KnivesGround$One", "ended", "Z", false)
def tyX1 : Nat → FieldType := fun k => match k with
  | 0 => .int
  | 1 => .int
  | 2 => .int
  | 3 => .int
  | 4 => .int
  | 5 => .int
  | _ => .boolean
abbrev wsX10 : List Cond := u_ws RX1 TX1 7
theorem nmX1 : ∀ a, a < 7 → ∀ b, b < 7 → a ≠ b → (TX1 a).2.1 ≠ (TX1 b).2.1 := by decide +kernel
theorem tyX1_ok : ∀ k, k < 7 → parseFieldDescriptor (TX1 k).2.2.1 = some (tyX1 k) := by decide +kernel
abbrev cX1_init : ByteArray := prog_3_method_1_code
def yX1_init : MethodName := ⟨RX1, "<init>", "()V"⟩
abbrev cX1_turnInto : ByteArray := prog_3_method_2_code
def yX1_turnInto : MethodName := ⟨RX1, "turnInto", "(I)V"⟩
abbrev cX1_copyFrom : ByteArray := prog_3_method_3_code
def yX1_copyFrom : MethodName := ⟨RX1, "copyFrom", "(LKnivesGround$One;)V"⟩
abbrev cX1_changeTo : ByteArray := prog_3_method_4_code
def yX1_changeTo : MethodName := ⟨RX1, "changeTo", "(II)I"⟩
abbrev cX1_isOfKind : ByteArray := prog_3_method_5_code
def yX1_isOfKind : MethodName := ⟨RX1, "isOfKind", "(I)Z"⟩
abbrev cX1_gains : ByteArray := prog_3_method_6_code
def yX1_gains : MethodName := ⟨RX1, "gains", "(II)I"⟩
abbrev cX1_needs : ByteArray := prog_3_method_7_code
def yX1_needs : MethodName := ⟨RX1, "needs", "()I"⟩
abbrev cX1_dulls : ByteArray := prog_3_method_8_code
def yX1_dulls : MethodName := ⟨RX1, "dulls", "()I"⟩
def RX2 : String := "KnivesGround$Reader"
def TX2 : u_T := fun k => match k with
  | 0 => ("KnivesGround$Reader", "text", "LKnivesGround$Text;", true)
  | 1 => ("KnivesGround$Reader", "bytes", "[I", true)
  | 2 => ("KnivesGround$Reader", "many", "I", false)
  | 3 => ("KnivesGround$Reader", "place", "I", false)
  | _ => ("KnivesGround$Reader", "fault", "I", false)
def tyX2 : Nat → FieldType := fun k => match k with
  | 0 => .object "KnivesGround$Text"
  | 1 => .array .int
  | 2 => .int
  | 3 => .int
  | _ => .int
abbrev wsX20 : List Cond := u_ws RX2 TX2 5
theorem nmX2 : ∀ a, a < 5 → ∀ b, b < 5 → a ≠ b → (TX2 a).2.1 ≠ (TX2 b).2.1 := by decide +kernel
theorem tyX2_ok : ∀ k, k < 5 → parseFieldDescriptor (TX2 k).2.2.1 = some (tyX2 k) := by decide +kernel
abbrev cX2_init : ByteArray := prog_4_method_1_code
def yX2_init : MethodName := ⟨RX2, "<init>", "()V"⟩
abbrev cX2_read : ByteArray := prog_4_method_2_code
def yX2_read : MethodName := ⟨RX2, "read", "([III)I"⟩
abbrev cX2_readLevel : ByteArray := prog_4_method_3_code
def yX2_readLevel : MethodName := ⟨RX2, "readLevel", "(II)I"⟩
abbrev cX2_readInnermost : ByteArray := prog_4_method_4_code
def yX2_readInnermost : MethodName := ⟨RX2, "readInnermost", "(I)I"⟩
abbrev cX2_readNumber : ByteArray := prog_4_method_5_code
def yX2_readNumber : MethodName := ⟨RX2, "readNumber", "()I"⟩
abbrev cX2_readNot : ByteArray := prog_4_method_6_code
def yX2_readNot : MethodName := ⟨RX2, "readNot", "(I)I"⟩
abbrev cX2_readBrackets : ByteArray := prog_4_method_7_code
def yX2_readBrackets : MethodName := ⟨RX2, "readBrackets", "(I)I"⟩
abbrev cX2_stop : ByteArray := prog_4_method_8_code
def yX2_stop : MethodName := ⟨RX2, "stop", "()I"⟩
abbrev cX2_next : ByteArray := prog_4_method_9_code
def yX2_next : MethodName := ⟨RX2, "next", "()I"⟩
abbrev cX2_nameOf : ByteArray := prog_4_method_10_code
def yX2_nameOf : MethodName := ⟨RX2, "nameOf", "(I)I"⟩
abbrev cX2_isDigit : ByteArray := prog_4_method_11_code
def yX2_isDigit : MethodName := ⟨RX2, "isDigit", "(I)Z"⟩
abbrev cX2_levelOf : ByteArray := prog_4_method_12_code
def yX2_levelOf : MethodName := ⟨RX2, "levelOf", "(I)I"⟩
def RX3 : String := "KnivesGround$Sheet"
def TX3 : u_T := fun k => match k with
  | 0 => ("KnivesGround$Sheet", "numbers", "[I", true)
  | 1 => ("KnivesGround$Sheet", "bits", "I", false)
  | _ => ("KnivesGround$Sheet", "many", "I", false)
def tyX3 : Nat → FieldType := fun k => match k with
  | 0 => .array .int
  | 1 => .int
  | _ => .int
abbrev wsX30 : List Cond := u_ws RX3 TX3 3
theorem nmX3 : ∀ a, a < 3 → ∀ b, b < 3 → a ≠ b → (TX3 a).2.1 ≠ (TX3 b).2.1 := by decide +kernel
theorem tyX3_ok : ∀ k, k < 3 → parseFieldDescriptor (TX3 k).2.2.1 = some (tyX3 k) := by decide +kernel
abbrev cX3_init : ByteArray := prog_5_method_1_code
def yX3_init : MethodName := ⟨RX3, "<init>", "()V"⟩
abbrev cX3_isMissing : ByteArray := prog_5_method_2_code
def yX3_isMissing : MethodName := ⟨RX3, "isMissing", "()Z"⟩
abbrev cX3_lay : ByteArray := prog_5_method_3_code
def yX3_lay : MethodName := ⟨RX3, "lay", "(II)V"⟩
abbrev cX3_write : ByteArray := prog_5_method_4_code
def yX3_write : MethodName := ⟨RX3, "write", "(II)V"⟩
abbrev cX3_hasNumbers : ByteArray := prog_5_method_5_code
def yX3_hasNumbers : MethodName := ⟨RX3, "hasNumbers", "(II)Z"⟩
def RX4 : String := "KnivesGround$Text"
def TX4 : u_T := fun k => match k with
  | 0 => ("KnivesGround$Text", "signs", "[I", true)
  | 1 => ("KnivesGround$Text", "lefts", "[I", true)
  | 2 => ("KnivesGround$Text", "rights", "[I", true)
  | 3 => ("KnivesGround$Text", "values", "[I", true)
  | 4 => ("KnivesGround$Text", "use", "I", false)
  | _ => ("KnivesGround$Text", "size", "I", false)
def tyX4 : Nat → FieldType := fun k => match k with
  | 0 => .array .int
  | 1 => .array .int
  | 2 => .array .int
  | 3 => .array .int
  | 4 => .int
  | _ => .int
abbrev wsX40 : List Cond := u_ws RX4 TX4 6
theorem nmX4 : ∀ a, a < 6 → ∀ b, b < 6 → a ≠ b → (TX4 a).2.1 ≠ (TX4 b).2.1 := by decide +kernel
theorem tyX4_ok : ∀ k, k < 6 → parseFieldDescriptor (TX4 k).2.2.1 = some (tyX4 k) := by decide +kernel
abbrev cX4_init : ByteArray := prog_6_method_1_code
def yX4_init : MethodName := ⟨RX4, "<init>", "()V"⟩
abbrev cX4_clear : ByteArray := prog_6_method_2_code
def yX4_clear : MethodName := ⟨RX4, "clear", "(I)V"⟩
abbrev cX4_add : ByteArray := prog_6_method_3_code
def yX4_add : MethodName := ⟨RX4, "add", "(III)I"⟩
abbrev cX4_copyFrom : ByteArray := prog_6_method_4_code
def yX4_copyFrom : MethodName := ⟨RX4, "copyFrom", "(LKnivesGround$Text;)V"⟩
abbrev cX4_gives : ByteArray := prog_6_method_5_code
def yX4_gives : MethodName := ⟨RX4, "gives", "(III)I"⟩
abbrev cX4_workedOut : ByteArray := prog_6_method_6_code
def yX4_workedOut : MethodName := ⟨RX4, "workedOut", "(III)I"⟩
abbrev cX4_joined : ByteArray := prog_6_method_7_code
def yX4_joined : MethodName := ⟨RX4, "joined", "(III)I"⟩
def RX5 : String := "KnivesGround$Voices"
def TX5 : u_T := fun k => match k with
  | 0 => ("KnivesGround$Voices", "trace", "[I", true)
  | 1 => ("KnivesGround$Voices", "bodies", "I", false)
  | 2 => ("KnivesGround$Voices", "own", "I", false)
  | 3 => ("KnivesGround$Voices", "n", "I", false)
  | _ => ("KnivesGround$Voices", "m", "I", false)
def tyX5 : Nat → FieldType := fun k => match k with
  | 0 => .array .int
  | 1 => .int
  | 2 => .int
  | 3 => .int
  | _ => .int
abbrev wsX50 : List Cond := u_ws RX5 TX5 5
theorem nmX5 : ∀ a, a < 5 → ∀ b, b < 5 → a ≠ b → (TX5 a).2.1 ≠ (TX5 b).2.1 := by decide +kernel
theorem tyX5_ok : ∀ k, k < 5 → parseFieldDescriptor (TX5 k).2.2.1 = some (tyX5 k) := by decide +kernel
abbrev cX5_init : ByteArray := prog_7_method_1_code
def yX5_init : MethodName := ⟨RX5, "<init>", "()V"⟩
abbrev cX5_beginWith : ByteArray := prog_7_method_2_code
def yX5_beginWith : MethodName := ⟨RX5, "beginWith", "(III)V"⟩
abbrev cX5_say : ByteArray := prog_7_method_3_code
def yX5_say : MethodName := ⟨RX5, "say", "(II)I"⟩
abbrev cX5_begin : ByteArray := prog_7_method_4_code
def yX5_begin : MethodName := ⟨RX5, "begin", "(I)V"⟩
abbrev cX5_sayGrinds : ByteArray := prog_7_method_5_code
def yX5_sayGrinds : MethodName := ⟨RX5, "sayGrinds", "(II)I"⟩
abbrev cX5_sayCuts : ByteArray := prog_7_method_6_code
def yX5_sayCuts : MethodName := ⟨RX5, "sayCuts", "(II)I"⟩
abbrev cX5_saySparks : ByteArray := prog_7_method_7_code
def yX5_saySparks : MethodName := ⟨RX5, "saySparks", "(II)I"⟩
abbrev cX5_sayTells : ByteArray := prog_7_method_8_code
def yX5_sayTells : MethodName := ⟨RX5, "sayTells", "(II)I"⟩
def RX6 : String := "KnivesGround$Whole"
def TX6 : u_T := fun k => match k with
  | 0 => ("KnivesGround$Whole", "grinds", "LKnivesGround$Text;", true)
  | 1 => ("KnivesGround$Whole", "harms", "LKnivesGround$Text;", true)
  | 2 => ("KnivesGround$Whole", "ground", "LKnivesGround$Ground;", true)
  | 3 => ("KnivesGround$Whole", "tape", "[I", true)
  | 4 => ("KnivesGround$Whole", "waiting", "[I", true)
  | 5 => ("KnivesGround$Whole", "bytes", "I", false)
  | 6 => ("KnivesGround$Whole", "waits", "I", false)
  | _ => ("KnivesGround$Whole", "z", "I", false)
def tyX6 : Nat → FieldType := fun k => match k with
  | 0 => .object "KnivesGround$Text"
  | 1 => .object "KnivesGround$Text"
  | 2 => .object "KnivesGround$Ground"
  | 3 => .array .int
  | 4 => .array .int
  | 5 => .int
  | 6 => .int
  | _ => .int
abbrev wsX60 : List Cond := u_ws RX6 TX6 8
theorem nmX6 : ∀ a, a < 8 → ∀ b, b < 8 → a ≠ b → (TX6 a).2.1 ≠ (TX6 b).2.1 := by decide +kernel
theorem tyX6_ok : ∀ k, k < 8 → parseFieldDescriptor (TX6 k).2.2.1 = some (tyX6 k) := by decide +kernel
abbrev cX6_init : ByteArray := prog_8_method_1_code
def yX6_init : MethodName := ⟨RX6, "<init>", "()V"⟩
abbrev cX6_textOf : ByteArray := prog_8_method_2_code
def yX6_textOf : MethodName := ⟨RX6, "textOf", "(I)LKnivesGround$Text;"⟩
abbrev cX6_draw : ByteArray := prog_8_method_3_code
def yX6_draw : MethodName := ⟨RX6, "draw", "()I"⟩
abbrev cX6_copyFrom : ByteArray := prog_8_method_4_code
def yX6_copyFrom : MethodName := ⟨RX6, "copyFrom", "(LKnivesGround$Whole;)V"⟩
def RX7 : String := "KnivesGround"
def TX7 : u_T := fun k => match k with
  | 0 => ("KnivesGround", "now", "LKnivesGround$Whole;", true)
  | 1 => ("KnivesGround", "kept", "LKnivesGround$Whole;", true)
  | 2 => ("KnivesGround", "thought", "LKnivesGround$Ground;", true)
  | 3 => ("KnivesGround", "reader", "LKnivesGround$Reader;", true)
  | 4 => ("KnivesGround", "voices", "LKnivesGround$Voices;", true)
  | 5 => ("KnivesGround", "sheets", "[LKnivesGround$Sheet;", true)
  | 6 => ("KnivesGround", "refused", "[I", true)
  | _ => ("KnivesGround", "images", "I", false)
def tyX7 : Nat → FieldType := fun k => match k with
  | 0 => .object "KnivesGround$Whole"
  | 1 => .object "KnivesGround$Whole"
  | 2 => .object "KnivesGround$Ground"
  | 3 => .object "KnivesGround$Reader"
  | 4 => .object "KnivesGround$Voices"
  | 5 => .array (.object "KnivesGround$Sheet")
  | 6 => .array .int
  | _ => .int
abbrev wsX70 : List Cond := u_ws RX7 TX7 8
theorem nmX7 : ∀ a, a < 8 → ∀ b, b < 8 → a ≠ b → (TX7 a).2.1 ≠ (TX7 b).2.1 := by decide +kernel
theorem tyX7_ok : ∀ k, k < 8 → parseFieldDescriptor (TX7 k).2.2.1 = some (tyX7 k) := by decide +kernel
abbrev cX7_init : ByteArray := prog_1_method_1_code
def yX7_init : MethodName := ⟨RX7, "<init>", "()V"⟩
abbrev cX7_set : ByteArray := prog_1_method_2_code
def yX7_set : MethodName := ⟨RX7, "set", "(II)I"⟩
abbrev cX7_inArea : ByteArray := prog_1_method_3_code
def yX7_inArea : MethodName := ⟨RX7, "inArea", "(I)I"⟩
abbrev cX7_quarrel : ByteArray := prog_1_method_4_code
def yX7_quarrel : MethodName := ⟨RX7, "quarrel", "(IIII)I"⟩
abbrev cX7_ofQuarrel : ByteArray := prog_1_method_5_code
def yX7_ofQuarrel : MethodName := ⟨RX7, "ofQuarrel", "(II)I"⟩
abbrev cX7_change : ByteArray := prog_1_method_6_code
def yX7_change : MethodName := ⟨RX7, "change", "(III)I"⟩
abbrev cX7_become : ByteArray := prog_1_method_7_code
def yX7_become : MethodName := ⟨RX7, "become", "(II)I"⟩
abbrev cX7_as : ByteArray := prog_1_method_8_code
def yX7_as : MethodName := ⟨RX7, "as", "(II)I"⟩
abbrev cX7_feed : ByteArray := prog_1_method_9_code
def yX7_feed : MethodName := ⟨RX7, "feed", "(JI)I"⟩
abbrev cX7_text : ByteArray := prog_1_method_10_code
def yX7_text : MethodName := ⟨RX7, "text", "(I)I"⟩
abbrev cX7_law : ByteArray := prog_1_method_11_code
def yX7_law : MethodName := ⟨RX7, "law", "(IIII)I"⟩
abbrev cX7_days : ByteArray := prog_1_method_12_code
def yX7_days : MethodName := ⟨RX7, "days", "(I)I"⟩
abbrev cX7_loose : ByteArray := prog_1_method_13_code
def yX7_loose : MethodName := ⟨RX7, "loose", "(I)I"⟩
abbrev cX7_then : ByteArray := prog_1_method_14_code
def yX7_then : MethodName := ⟨RX7, "then", "(III)I"⟩
abbrev cX7_when : ByteArray := prog_1_method_15_code
def yX7_when : MethodName := ⟨RX7, "when", "(I)I"⟩
abbrev cX7_ended : ByteArray := prog_1_method_16_code
def yX7_ended : MethodName := ⟨RX7, "ended", "(I)I"⟩
abbrev cX7_start : ByteArray := prog_1_method_17_code
def yX7_start : MethodName := ⟨RX7, "start", "(II)I"⟩
abbrev cX7_pace : ByteArray := prog_1_method_18_code
def yX7_pace : MethodName := ⟨RX7, "pace", "(II)I"⟩
abbrev cX7_hand : ByteArray := prog_1_method_19_code
def yX7_hand : MethodName := ⟨RX7, "hand", "(II)I"⟩
abbrev cX7_first : ByteArray := prog_1_method_20_code
def yX7_first : MethodName := ⟨RX7, "first", "(II)I"⟩
abbrev cX7_sparks : ByteArray := prog_1_method_21_code
def yX7_sparks : MethodName := ⟨RX7, "sparks", "(II)I"⟩
abbrev cX7_last : ByteArray := prog_1_method_22_code
def yX7_last : MethodName := ⟨RX7, "last", "(I)I"⟩
abbrev cX7_sharp : ByteArray := prog_1_method_23_code
def yX7_sharp : MethodName := ⟨RX7, "sharp", "(II)I"⟩
abbrev cX7_off : ByteArray := prog_1_method_24_code
def yX7_off : MethodName := ⟨RX7, "off", "(I)I"⟩
abbrev cX7_chain : ByteArray := prog_1_method_25_code
def yX7_chain : MethodName := ⟨RX7, "chain", "(I)I"⟩
abbrev cX7_fee : ByteArray := prog_1_method_26_code
def yX7_fee : MethodName := ⟨RX7, "fee", "(I)I"⟩
abbrev cX7_free : ByteArray := prog_1_method_27_code
def yX7_free : MethodName := ⟨RX7, "free", "()I"⟩
abbrev cX7_odds : ByteArray := prog_1_method_28_code
def yX7_odds : MethodName := ⟨RX7, "odds", "(III)I"⟩
abbrev cX7_seed : ByteArray := prog_1_method_29_code
def yX7_seed : MethodName := ⟨RX7, "seed", "(I)I"⟩
abbrev cX7_voice : ByteArray := prog_1_method_30_code
def yX7_voice : MethodName := ⟨RX7, "voice", "(III)I"⟩
abbrev cX7_trace : ByteArray := prog_1_method_31_code
def yX7_trace : MethodName := ⟨RX7, "trace", "(I)I"⟩
abbrev cX7_sheet : ByteArray := prog_1_method_32_code
def yX7_sheet : MethodName := ⟨RX7, "sheet", "(III)I"⟩
abbrev cX7_put : ByteArray := prog_1_method_33_code
def yX7_put : MethodName := ⟨RX7, "put", "(III)I"⟩
abbrev cX7_move : ByteArray := prog_1_method_34_code
def yX7_move : MethodName := ⟨RX7, "move", "(IIIII)I"⟩
abbrev cX7_edges : ByteArray := prog_1_method_35_code
def yX7_edges : MethodName := ⟨RX7, "edges", "(I)I"⟩
abbrev cX7_judge : ByteArray := prog_1_method_36_code
def yX7_judge : MethodName := ⟨RX7, "judge", "(I)I"⟩
abbrev cX7_image : ByteArray := prog_1_method_37_code
def yX7_image : MethodName := ⟨RX7, "image", "()I"⟩
abbrev cX7_restore : ByteArray := prog_1_method_38_code
def yX7_restore : MethodName := ⟨RX7, "restore", "()I"⟩
abbrev cX7_tell : ByteArray := prog_1_method_39_code
def yX7_tell : MethodName := ⟨RX7, "tell", "(I)I"⟩
abbrev cX7_check : ByteArray := prog_1_method_40_code
def yX7_check : MethodName := ⟨RX7, "check", "()I"⟩
abbrev cX7_count : ByteArray := prog_1_method_41_code
def yX7_count : MethodName := ⟨RX7, "count", "(I)I"⟩
abbrev cX7_told : ByteArray := prog_1_method_42_code
def yX7_told : MethodName := ⟨RX7, "told", "(I)I"⟩
abbrev cX7_refuse : ByteArray := prog_1_method_43_code
def yX7_refuse : MethodName := ⟨RX7, "refuse", "(I)I"⟩
abbrev cX7_isQuarrel : ByteArray := prog_1_method_44_code
def yX7_isQuarrel : MethodName := ⟨RX7, "isQuarrel", "(I)Z"⟩
abbrev cX7_isSheet : ByteArray := prog_1_method_45_code
def yX7_isSheet : MethodName := ⟨RX7, "isSheet", "(I)Z"⟩
abbrev cX7_isKindAndM : ByteArray := prog_1_method_46_code
def yX7_isKindAndM : MethodName := ⟨RX7, "isKindAndM", "(I)Z"⟩
abbrev cX7_isWithin : ByteArray := prog_1_method_47_code
def yX7_isWithin : MethodName := ⟨RX7, "isWithin", "(III)Z"⟩
abbrev cX7_mostOfGrinder : ByteArray := prog_1_method_48_code
def yX7_mostOfGrinder : MethodName := ⟨RX7, "mostOfGrinder", "(I)I"⟩
abbrev cX7_mostOfQuarrel : ByteArray := prog_1_method_49_code
def yX7_mostOfQuarrel : MethodName := ⟨RX7, "mostOfQuarrel", "(I)I"⟩
abbrev cX7_greatestOf : ByteArray := prog_1_method_50_code
def yX7_greatestOf : MethodName := ⟨RX7, "greatestOf", "(I)I"⟩
abbrev cX7_greatestDivisor : ByteArray := prog_1_method_51_code
def yX7_greatestDivisor : MethodName := ⟨RX7, "greatestDivisor", "(II)I"⟩
abbrev cX7_think : ByteArray := prog_1_method_52_code
def yX7_think : MethodName := ⟨RX7, "think", "()V"⟩
abbrev cX7_thinkDays : ByteArray := prog_1_method_53_code
def yX7_thinkDays : MethodName := ⟨RX7, "thinkDays", "(I)V"⟩
abbrev cX7_thinkDaysWithHarm : ByteArray := prog_1_method_54_code
def yX7_thinkDaysWithHarm : MethodName := ⟨RX7, "thinkDaysWithHarm", "(I)V"⟩
abbrev cX7_endsInThought : ByteArray := prog_1_method_55_code
def yX7_endsInThought : MethodName := ⟨RX7, "endsInThought", "(II)Z"⟩
def RX8 : String := "KnivesGroundModel"
def TX8 : u_T := fun k => match k with
  | 0 => ("KnivesGroundModel", "row", "[I", true)
  | 1 => ("KnivesGroundModel", "kept", "[I", true)
  | 2 => ("KnivesGroundModel", "tried", "[I", true)
  | 3 => ("KnivesGroundModel", "isKept", "Z", false)
  | 4 => ("KnivesGroundModel", "images", "I", false)
  | 5 => ("KnivesGroundModel", "found", "[I", true)
  | 6 => ("KnivesGroundModel", "use", "I", false)
  | 7 => ("KnivesGroundModel", "at", "I", false)
  | 8 => ("KnivesGroundModel", "end", "I", false)
  | 9 => ("KnivesGroundModel", "open", "I", false)
  | 10 => ("KnivesGroundModel", "steps", "I", false)
  | 11 => ("KnivesGroundModel", "good", "Z", false)
  | 12 => ("KnivesGroundModel", "made", "[I", true)
  | 13 => ("KnivesGroundModel", "pile", "[I", true)
  | 14 => ("KnivesGroundModel", "names", "[I", true)
  | 15 => ("KnivesGroundModel", "bitsOf", "[I", true)
  | 16 => ("KnivesGroundModel", "sizeOf", "[I", true)
  | 17 => ("KnivesGroundModel", "sheets", "[I", true)
  | 18 => ("KnivesGroundModel", "moved", "[I", true)
  | 19 => ("KnivesGroundModel", "traced", "[I", true)
  | 20 => ("KnivesGroundModel", "tracedMany", "I", false)
  | 21 => ("KnivesGroundModel", "voiceKind", "I", false)
  | 22 => ("KnivesGroundModel", "voiceN", "I", false)
  | _ => ("KnivesGroundModel", "voiceM", "I", false)
def tyX8 : Nat → FieldType := fun k => match k with
  | 0 => .array .int
  | 1 => .array .int
  | 2 => .array .int
  | 3 => .boolean
  | 4 => .int
  | 5 => .array .int
  | 6 => .int
  | 7 => .int
  | 8 => .int
  | 9 => .int
  | 10 => .int
  | 11 => .boolean
  | 12 => .array .int
  | 13 => .array .int
  | 14 => .array .int
  | 15 => .array .int
  | 16 => .array .int
  | 17 => .array .int
  | 18 => .array .int
  | 19 => .array .int
  | 20 => .int
  | 21 => .int
  | 22 => .int
  | _ => .int
abbrev wsX80 : List Cond := u_ws RX8 TX8 24
theorem nmX8 : ∀ a, a < 24 → ∀ b, b < 24 → a ≠ b → (TX8 a).2.1 ≠ (TX8 b).2.1 := by decide +kernel
theorem tyX8_ok : ∀ k, k < 24 → parseFieldDescriptor (TX8 k).2.2.1 = some (tyX8 k) := by decide +kernel
abbrev cX8_init : ByteArray := prog_10_method_1_code
def yX8_init : MethodName := ⟨RX8, "<init>", "()V"⟩
abbrev cX8_in : ByteArray := prog_10_method_2_code
def yX8_in : MethodName := ⟨RX8, "in", "(III)Z"⟩
abbrev cX8_errs : ByteArray := prog_10_method_3_code
def yX8_errs : MethodName := ⟨RX8, "errs", "(I)I"⟩
abbrev cX8_held : ByteArray := prog_10_method_4_code
def yX8_held : MethodName := ⟨RX8, "held", "(III)I"⟩
abbrev cX8_moveAll : ByteArray := prog_10_method_5_code
def yX8_moveAll : MethodName := ⟨RX8, "moveAll", "([I[I)V"⟩
abbrev cX8_bits : ByteArray := prog_10_method_6_code
def yX8_bits : MethodName := ⟨RX8, "bits", "(I)I"⟩
abbrev cX8_its : ByteArray := prog_10_method_7_code
def yX8_its : MethodName := ⟨RX8, "its", "(II)I"⟩
abbrev cX8_gets : ByteArray := prog_10_method_8_code
def yX8_gets : MethodName := ⟨RX8, "gets", "(III)V"⟩
abbrev cX8_isQuarrel : ByteArray := prog_10_method_9_code
def yX8_isQuarrel : MethodName := ⟨RX8, "isQuarrel", "(I)Z"⟩
abbrev cX8_isArea : ByteArray := prog_10_method_10_code
def yX8_isArea : MethodName := ⟨RX8, "isArea", "(I)Z"⟩
abbrev cX8_becomes : ByteArray := prog_10_method_11_code
def yX8_becomes : MethodName := ⟨RX8, "becomes", "(II)I"⟩
abbrev cX8_set : ByteArray := prog_10_method_12_code
def yX8_set : MethodName := ⟨RX8, "set", "(II)I"⟩
abbrev cX8_inArea : ByteArray := prog_10_method_13_code
def yX8_inArea : MethodName := ⟨RX8, "inArea", "(I)I"⟩
abbrev cX8_quarrel : ByteArray := prog_10_method_14_code
def yX8_quarrel : MethodName := ⟨RX8, "quarrel", "(IIII)I"⟩
abbrev cX8_ofQuarrel : ByteArray := prog_10_method_15_code
def yX8_ofQuarrel : MethodName := ⟨RX8, "ofQuarrel", "(II)I"⟩
abbrev cX8_change : ByteArray := prog_10_method_16_code
def yX8_change : MethodName := ⟨RX8, "change", "(III)I"⟩
abbrev cX8_become : ByteArray := prog_10_method_17_code
def yX8_become : MethodName := ⟨RX8, "become", "(II)I"⟩
abbrev cX8_above : ByteArray := prog_10_method_18_code
def yX8_above : MethodName := ⟨RX8, "above", "(I)I"⟩
abbrev cX8_as : ByteArray := prog_10_method_19_code
def yX8_as : MethodName := ⟨RX8, "as", "(II)I"⟩
abbrev cX8_byteAt : ByteArray := prog_10_method_20_code
def yX8_byteAt : MethodName := ⟨RX8, "byteAt", "(I)I"⟩
abbrev cX8_isDigit : ByteArray := prog_10_method_21_code
def yX8_isDigit : MethodName := ⟨RX8, "isDigit", "(I)Z"⟩
abbrev cX8_adds : ByteArray := prog_10_method_22_code
def yX8_adds : MethodName := ⟨RX8, "adds", "(I)V"⟩
abbrev cX8_number : ByteArray := prog_10_method_23_code
def yX8_number : MethodName := ⟨RX8, "number", "()V"⟩
abbrev cX8_named : ByteArray := prog_10_method_24_code
def yX8_named : MethodName := ⟨RX8, "named", "(I)V"⟩
abbrev cX8_factor : ByteArray := prog_10_method_25_code
def yX8_factor : MethodName := ⟨RX8, "factor", "()V"⟩
abbrev cX8_product : ByteArray := prog_10_method_26_code
def yX8_product : MethodName := ⟨RX8, "product", "()V"⟩
abbrev cX8_sum : ByteArray := prog_10_method_27_code
def yX8_sum : MethodName := ⟨RX8, "sum", "()V"⟩
abbrev cX8_compared : ByteArray := prog_10_method_28_code
def yX8_compared : MethodName := ⟨RX8, "compared", "()V"⟩
abbrev cX8_both : ByteArray := prog_10_method_29_code
def yX8_both : MethodName := ⟨RX8, "both", "()V"⟩
abbrev cX8_whole : ByteArray := prog_10_method_30_code
def yX8_whole : MethodName := ⟨RX8, "whole", "()V"⟩
abbrev cX8_workedOut : ByteArray := prog_10_method_31_code
def yX8_workedOut : MethodName := ⟨RX8, "workedOut", "(III)I"⟩
abbrev cX8_walks : ByteArray := prog_10_method_32_code
def yX8_walks : MethodName := ⟨RX8, "walks", "(IIII)I"⟩
abbrev cX8_lawOf : ByteArray := prog_10_method_33_code
def yX8_lawOf : MethodName := ⟨RX8, "lawOf", "(IIII)I"⟩
abbrev cX8_law : ByteArray := prog_10_method_34_code
def yX8_law : MethodName := ⟨RX8, "law", "(IIII)I"⟩
abbrev cX8_feed : ByteArray := prog_10_method_35_code
def yX8_feed : MethodName := ⟨RX8, "feed", "(JI)I"⟩
abbrev cX8_text : ByteArray := prog_10_method_36_code
def yX8_text : MethodName := ⟨RX8, "text", "(I)I"⟩
abbrev cX8_gains : ByteArray := prog_10_method_37_code
def yX8_gains : MethodName := ⟨RX8, "gains", "(I)I"⟩
abbrev cX8_needs : ByteArray := prog_10_method_38_code
def yX8_needs : MethodName := ⟨RX8, "needs", "(I)I"⟩
abbrev cX8_dulls : ByteArray := prog_10_method_39_code
def yX8_dulls : MethodName := ⟨RX8, "dulls", "(I)I"⟩
abbrev cX8_isOver : ByteArray := prog_10_method_40_code
def yX8_isOver : MethodName := ⟨RX8, "isOver", "(I)Z"⟩
abbrev cX8_isLoose : ByteArray := prog_10_method_41_code
def yX8_isLoose : MethodName := ⟨RX8, "isLoose", "(I)Z"⟩
abbrev cX8_grindsAll : ByteArray := prog_10_method_42_code
def yX8_grindsAll : MethodName := ⟨RX8, "grindsAll", "()V"⟩
abbrev cX8_goesOn : ByteArray := prog_10_method_43_code
def yX8_goesOn : MethodName := ⟨RX8, "goesOn", "(I)V"⟩
abbrev cX8_oneDay : ByteArray := prog_10_method_44_code
def yX8_oneDay : MethodName := ⟨RX8, "oneDay", "(Z)V"⟩
abbrev cX8_passes : ByteArray := prog_10_method_45_code
def yX8_passes : MethodName := ⟨RX8, "passes", "(I)V"⟩
abbrev cX8_overSet : ByteArray := prog_10_method_46_code
def yX8_overSet : MethodName := ⟨RX8, "overSet", "()I"⟩
abbrev cX8_overBehind : ByteArray := prog_10_method_47_code
def yX8_overBehind : MethodName := ⟨RX8, "overBehind", "(I)I"⟩
abbrev cX8_days : ByteArray := prog_10_method_48_code
def yX8_days : MethodName := ⟨RX8, "days", "(I)I"⟩
abbrev cX8_drawn : ByteArray := prog_10_method_49_code
def yX8_drawn : MethodName := ⟨RX8, "drawn", "(I)I"⟩
abbrev cX8_loose : ByteArray := prog_10_method_50_code
def yX8_loose : MethodName := ⟨RX8, "loose", "(I)I"⟩
abbrev cX8_then : ByteArray := prog_10_method_51_code
def yX8_then : MethodName := ⟨RX8, "then", "(III)I"⟩
abbrev cX8_when : ByteArray := prog_10_method_52_code
def yX8_when : MethodName := ⟨RX8, "when", "(I)I"⟩
abbrev cX8_ended : ByteArray := prog_10_method_53_code
def yX8_ended : MethodName := ⟨RX8, "ended", "(I)I"⟩
abbrev cX8_mostOver : ByteArray := prog_10_method_54_code
def yX8_mostOver : MethodName := ⟨RX8, "mostOver", "(III)I"⟩
abbrev cX8_start : ByteArray := prog_10_method_55_code
def yX8_start : MethodName := ⟨RX8, "start", "(II)I"⟩
abbrev cX8_pace : ByteArray := prog_10_method_56_code
def yX8_pace : MethodName := ⟨RX8, "pace", "(II)I"⟩
abbrev cX8_isOverBy : ByteArray := prog_10_method_57_code
def yX8_isOverBy : MethodName := ⟨RX8, "isOverBy", "(III)Z"⟩
abbrev cX8_hand : ByteArray := prog_10_method_58_code
def yX8_hand : MethodName := ⟨RX8, "hand", "(II)I"⟩
abbrev cX8_first : ByteArray := prog_10_method_59_code
def yX8_first : MethodName := ⟨RX8, "first", "(II)I"⟩
abbrev cX8_isSheet : ByteArray := prog_10_method_60_code
def yX8_isSheet : MethodName := ⟨RX8, "isSheet", "(I)Z"⟩
abbrev cX8_areEdgesSo : ByteArray := prog_10_method_61_code
def yX8_areEdgesSo : MethodName := ⟨RX8, "areEdgesSo", "(I)Z"⟩
abbrev cX8_sparks : ByteArray := prog_10_method_62_code
def yX8_sparks : MethodName := ⟨RX8, "sparks", "(II)I"⟩
abbrev cX8_last : ByteArray := prog_10_method_63_code
def yX8_last : MethodName := ⟨RX8, "last", "(I)I"⟩
abbrev cX8_sharp : ByteArray := prog_10_method_64_code
def yX8_sharp : MethodName := ⟨RX8, "sharp", "(II)I"⟩
abbrev cX8_off : ByteArray := prog_10_method_65_code
def yX8_off : MethodName := ⟨RX8, "off", "(I)I"⟩
abbrev cX8_chain : ByteArray := prog_10_method_66_code
def yX8_chain : MethodName := ⟨RX8, "chain", "(I)I"⟩
abbrev cX8_fee : ByteArray := prog_10_method_67_code
def yX8_fee : MethodName := ⟨RX8, "fee", "(I)I"⟩
abbrev cX8_free : ByteArray := prog_10_method_68_code
def yX8_free : MethodName := ⟨RX8, "free", "()I"⟩
abbrev cX8_divisor : ByteArray := prog_10_method_69_code
def yX8_divisor : MethodName := ⟨RX8, "divisor", "(II)I"⟩
abbrev cX8_odds : ByteArray := prog_10_method_70_code
def yX8_odds : MethodName := ⟨RX8, "odds", "(III)I"⟩
abbrev cX8_seed : ByteArray := prog_10_method_71_code
def yX8_seed : MethodName := ⟨RX8, "seed", "(I)I"⟩
abbrev cX8_ran : ByteArray := prog_10_method_72_code
def yX8_ran : MethodName := ⟨RX8, "ran", "(I)V"⟩
abbrev cX8_grindsIn : ByteArray := prog_10_method_73_code
def yX8_grindsIn : MethodName := ⟨RX8, "grindsIn", "(II)I"⟩
abbrev cX8_sparksIn : ByteArray := prog_10_method_74_code
def yX8_sparksIn : MethodName := ⟨RX8, "sparksIn", "(II)I"⟩
abbrev cX8_cutsIn : ByteArray := prog_10_method_75_code
def yX8_cutsIn : MethodName := ⟨RX8, "cutsIn", "(II)I"⟩
abbrev cX8_tellsIn : ByteArray := prog_10_method_76_code
def yX8_tellsIn : MethodName := ⟨RX8, "tellsIn", "(II)I"⟩
abbrev cX8_voice : ByteArray := prog_10_method_77_code
def yX8_voice : MethodName := ⟨RX8, "voice", "(III)I"⟩
abbrev cX8_trace : ByteArray := prog_10_method_78_code
def yX8_trace : MethodName := ⟨RX8, "trace", "(I)I"⟩
abbrev cX8_narrow : ByteArray := prog_10_method_79_code
def yX8_narrow : MethodName := ⟨RX8, "narrow", "(II)I"⟩
abbrev cX8_sheet : ByteArray := prog_10_method_80_code
def yX8_sheet : MethodName := ⟨RX8, "sheet", "(III)I"⟩
abbrev cX8_put : ByteArray := prog_10_method_81_code
def yX8_put : MethodName := ⟨RX8, "put", "(III)I"⟩
abbrev cX8_move : ByteArray := prog_10_method_82_code
def yX8_move : MethodName := ⟨RX8, "move", "(IIIII)I"⟩
abbrev cX8_edges : ByteArray := prog_10_method_83_code
def yX8_edges : MethodName := ⟨RX8, "edges", "(I)I"⟩
abbrev cX8_judge : ByteArray := prog_10_method_84_code
def yX8_judge : MethodName := ⟨RX8, "judge", "(I)I"⟩
abbrev cX8_image : ByteArray := prog_10_method_85_code
def yX8_image : MethodName := ⟨RX8, "image", "()I"⟩
abbrev cX8_restore : ByteArray := prog_10_method_86_code
def yX8_restore : MethodName := ⟨RX8, "restore", "()I"⟩
abbrev cX8_tell : ByteArray := prog_10_method_87_code
def yX8_tell : MethodName := ⟨RX8, "tell", "(I)I"⟩
abbrev cX8_check : ByteArray := prog_10_method_88_code
def yX8_check : MethodName := ⟨RX8, "check", "()I"⟩
abbrev cX8_edgesOfAll : ByteArray := prog_10_method_89_code
def yX8_edgesOfAll : MethodName := ⟨RX8, "edgesOfAll", "()I"⟩
abbrev cX8_count : ByteArray := prog_10_method_90_code
def yX8_count : MethodName := ⟨RX8, "count", "(I)I"⟩
abbrev cX8_told : ByteArray := prog_10_method_91_code
def yX8_told : MethodName := ⟨RX8, "told", "(I)I"⟩
def RJ6 : String := "java/lang/Integer"
def TJ6 : u_T := fun k => match k with
  | _ => ("", "", "", false)
def tyJ6 : Nat → FieldType := fun k => match k with
  | _ => .int
abbrev wsJ60 : List Cond := u_ws RJ6 TJ6 0
theorem nmJ6 : ∀ a, a < 0 → ∀ b, b < 0 → a ≠ b → (TJ6 a).2.1 ≠ (TJ6 b).2.1 := by decide +kernel
theorem tyJ6_ok : ∀ k, k < 0 → parseFieldDescriptor (TJ6 k).2.2.1 = some (tyJ6 k) := by decide +kernel
abbrev cJ6_bitCount_0f7a4 : ByteArray := prog_11_method_49_code
def yJ6_bitCount_0f7a4 : MethodName := ⟨RJ6, "bitCount", "(I)I"⟩
def RJ9 : String := "java/lang/Math"
def TJ9 : u_T := fun k => match k with
  | _ => ("", "", "", false)
def tyJ9 : Nat → FieldType := fun k => match k with
  | _ => .int
abbrev wsJ90 : List Cond := u_ws RJ9 TJ9 0
theorem nmJ9 : ∀ a, a < 0 → ∀ b, b < 0 → a ≠ b → (TJ9 a).2.1 ≠ (TJ9 b).2.1 := by decide +kernel
theorem tyJ9_ok : ∀ k, k < 0 → parseFieldDescriptor (TJ9 k).2.2.1 = some (tyJ9 k) := by decide +kernel
abbrev cJ9_max_7cf53 : ByteArray := prog_12_method_65_code
def yJ9_max_7cf53 : MethodName := ⟨RJ9, "max", "(II)I"⟩
abbrev cJ9_min_7cf53 : ByteArray := prog_12_method_69_code
def yJ9_min_7cf53 : MethodName := ⟨RJ9, "min", "(II)I"⟩
def RJ10 : String := "java/lang/System"
def TJ10 : u_T := fun k => match k with
  | _ => ("", "", "", false)
def tyJ10 : Nat → FieldType := fun k => match k with
  | _ => .int
abbrev wsJ100 : List Cond := u_ws RJ10 TJ10 0
theorem nmJ10 : ∀ a, a < 0 → ∀ b, b < 0 → a ≠ b → (TJ10 a).2.1 ≠ (TJ10 b).2.1 := by decide +kernel
theorem tyJ10_ok : ∀ k, k < 0 → parseFieldDescriptor (TJ10 k).2.2.1 = some (tyJ10 k) := by decide +kernel
def RL : String := "KnivesGroundLaw"
abbrev cL_law : ByteArray := code
def yL_law : MethodName := ⟨RL, "law", "([I)Z"⟩
theorem inJ6 : ∀ w ∈ wsJ60, w ∈ lw_tbl := by decide +kernel
theorem inJ9 : ∀ w ∈ wsJ90, w ∈ lw_tbl := by decide +kernel
theorem inJ10 : ∀ w ∈ wsJ100, w ∈ lw_tbl := by decide +kernel
abbrev vwCl : List vw_C := [(RX0, TX0, 9), (RX1, TX1, 7), (RX2, TX2, 5), (RX3, TX3, 3), (RX4, TX4, 6), (RX5, TX5, 5), (RX6, TX6, 8), (RX7, TX7, 8), (RX8, TX8, 24)]
end
section
def wsL_law_r1 : List Cond := [Cond.classLink RL 7 RX7, Cond.instantiable RX7 8, Cond.initialized RX7, Cond.classLink RL 10 RX8, Cond.instantiable RX8 24, Cond.initialized RX8, Cond.constantLong RL 45 (4294967295), Cond.methodLink RL 9 yX7_init, Cond.instanceMethod yX7_init, Cond.code yX7_init cX7_init 2 none, Cond.methodLink RX7 3 objectInit, Cond.instanceMethod objectInit, Cond.code objectInit ⟨#[0xb1]⟩ 1 none, Cond.classLink RX7 9 RX6, Cond.instantiable RX6 8, Cond.initialized RX6, Cond.fieldLink RX7 12 "KnivesGround" "now" "LKnivesGround$Whole;", Cond.fieldLink RX7 16 "KnivesGround" "kept" "LKnivesGround$Whole;", Cond.classLink RX7 19 RX0, Cond.instantiable RX0 9, Cond.initialized RX0, Cond.fieldLink RX7 31 "KnivesGround" "thought" "LKnivesGround$Ground;", Cond.classLink RX7 35 RX2, Cond.instantiable RX2 5]
def wsL_law_r2 : List Cond := [Cond.initialized RX2, Cond.fieldLink RX7 38 "KnivesGround" "reader" "LKnivesGround$Reader;", Cond.classLink RX7 42 RX5, Cond.instantiable RX5 5, Cond.initialized RX5, Cond.fieldLink RX7 45 "KnivesGround" "voices" "LKnivesGround$Voices;", Cond.classLink RX7 49 RX3, Cond.fieldLink RX7 51 "KnivesGround" "sheets" "[LKnivesGround$Sheet;", Cond.arrayClass .int, Cond.fieldLink RX7 55 "KnivesGround" "refused" "[I", Cond.instantiable RX3 3, Cond.initialized RX3, Cond.instanceMethod yX6_init, Cond.code yX6_init cX6_init 1 none, Cond.methodLink RX6 3 objectInit, Cond.classLink RX6 9 RX4, Cond.instantiable RX4 6, Cond.initialized RX4, Cond.fieldLink RX6 12 "KnivesGround$Whole" "grinds" "LKnivesGround$Text;", Cond.fieldLink RX6 18 "KnivesGround$Whole" "harms" "LKnivesGround$Text;", Cond.classLink RX6 21 RX0, Cond.fieldLink RX6 26 "KnivesGround$Whole" "ground" "LKnivesGround$Ground;", Cond.fieldLink RX6 30 "KnivesGround$Whole" "tape" "[I", Cond.fieldLink RX6 34 "KnivesGround$Whole" "waiting" "[I"]
def wsL_law_r3 : List Cond := [Cond.fieldLink RX6 37 "KnivesGround$Whole" "z" "I", Cond.instanceMethod yX4_init, Cond.code yX4_init cX4_init 1 none, Cond.methodLink RX4 3 objectInit, Cond.fieldLink RX4 9 "KnivesGround$Text" "signs" "[I", Cond.fieldLink RX4 15 "KnivesGround$Text" "lefts" "[I", Cond.fieldLink RX4 18 "KnivesGround$Text" "rights" "[I", Cond.fieldLink RX4 21 "KnivesGround$Text" "values" "[I", Cond.instanceMethod yX0_init, Cond.code yX0_init cX0_init 4 none, Cond.methodLink RX0 3 objectInit, Cond.classLink RX0 9 RX1, Cond.fieldLink RX0 11 "KnivesGround$Ground" "ones" "[LKnivesGround$One;", Cond.fieldLink RX0 17 "KnivesGround$Ground" "step" "I", Cond.fieldLink RX0 21 "KnivesGround$Ground" "grinds" "LKnivesGround$Text;", Cond.fieldLink RX0 25 "KnivesGround$Ground" "harms" "LKnivesGround$Text;", Cond.instantiable RX1 7, Cond.initialized RX1, Cond.instanceMethod yX1_init, Cond.code yX1_init cX1_init 1 none, Cond.methodLink RX1 3 objectInit, Cond.instanceMethod yX4_clear, Cond.selects RX4 yX4_clear yX4_clear, Cond.code yX4_clear cX4_clear 2 none]
def wsL_law_r4 : List Cond := [Cond.fieldLink RX4 24 "KnivesGround$Text" "use" "I", Cond.fieldLink RX4 28 "KnivesGround$Text" "size" "I", Cond.instanceMethod yX2_init, Cond.code yX2_init cX2_init 1 none, Cond.methodLink RX2 3 objectInit, Cond.classLink RX2 9 RX4, Cond.fieldLink RX2 12 "KnivesGround$Reader" "text" "LKnivesGround$Text;", Cond.fieldLink RX2 18 "KnivesGround$Reader" "bytes" "[I", Cond.instanceMethod yX5_init, Cond.code yX5_init cX5_init 1 none, Cond.methodLink RX5 3 objectInit, Cond.fieldLink RX5 9 "KnivesGround$Voices" "trace" "[I", Cond.instanceMethod yX3_init, Cond.code yX3_init cX3_init 1 none, Cond.methodLink RX3 3 objectInit, Cond.fieldLink RX3 9 "KnivesGround$Sheet" "numbers" "[I", Cond.methodLink RL 12 yX8_init, Cond.instanceMethod yX8_init, Cond.code yX8_init cX8_init 1 none, Cond.methodLink RX8 1 objectInit, Cond.fieldLink RX8 7 "KnivesGroundModel" "row" "[I", Cond.fieldLink RX8 13 "KnivesGroundModel" "kept" "[I", Cond.fieldLink RX8 16 "KnivesGroundModel" "tried" "[I", Cond.fieldLink RX8 19 "KnivesGroundModel" "found" "[I"]
def wsL_law_r5 : List Cond := [Cond.fieldLink RX8 22 "KnivesGroundModel" "made" "[I", Cond.fieldLink RX8 25 "KnivesGroundModel" "pile" "[I", Cond.fieldLink RX8 28 "KnivesGroundModel" "names" "[I", Cond.fieldLink RX8 31 "KnivesGroundModel" "bitsOf" "[I", Cond.fieldLink RX8 34 "KnivesGroundModel" "sizeOf" "[I", Cond.fieldLink RX8 37 "KnivesGroundModel" "sheets" "[I", Cond.fieldLink RX8 40 "KnivesGroundModel" "moved" "[I", Cond.fieldLink RX8 43 "KnivesGroundModel" "traced" "[I", Cond.methodLink RL 13 yX7_set, Cond.instanceMethod yX7_set, Cond.selects RX7 yX7_set yX7_set, Cond.code yX7_set cX7_set 3 (some .int), Cond.constant RX7 68 (-1000000001), Cond.methodLink RX7 60 yX7_isWithin, Cond.static yX7_isWithin, Cond.code yX7_isWithin cX7_isWithin 3 (some .boolean), Cond.methodLink RX7 64 yX7_mostOfGrinder, Cond.static yX7_mostOfGrinder, Cond.code yX7_mostOfGrinder cX7_mostOfGrinder 1 (some .int), Cond.constant RX7 314 (99999), Cond.methodLink RX7 69 yX7_refuse, Cond.instanceMethod yX7_refuse, Cond.selects RX7 yX7_refuse yX7_refuse, Cond.code yX7_refuse cX7_refuse 2 (some .int)]
def wsL_law_r6 : List Cond := [Cond.constant RX7 313 (-1000000000), Cond.instanceMethod yX0_setGrinder, Cond.selects RX0 yX0_setGrinder yX0_setGrinder, Cond.code yX0_setGrinder cX0_setGrinder 4 (some .int), Cond.fieldLink RX0 36 "KnivesGround$Ground" "grinder" "I", Cond.fieldLink RX0 42 "KnivesGround$Ground" "harm" "I", Cond.fieldLink RX0 45 "KnivesGround$Ground" "pence" "I", Cond.methodLink RL 17 yX8_set, Cond.instanceMethod yX8_set, Cond.selects RX8 yX8_set yX8_set, Cond.code yX8_set cX8_set 4 (some .int), Cond.constant RX8 55 (99999), Cond.constant RX8 60 (-1000000001), Cond.methodLink RX8 47 yX8_in, Cond.static yX8_in, Cond.code yX8_in cX8_in 3 (some .boolean), Cond.methodLink RX8 51 yX8_isArea, Cond.static yX8_isArea, Cond.code yX8_isArea cX8_isArea 1 (some .boolean), Cond.methodLink RX8 56 yX8_becomes, Cond.instanceMethod yX8_becomes, Cond.selects RX8 yX8_becomes yX8_becomes, Cond.code yX8_becomes cX8_becomes 4 (some .int), Cond.methodLink RX8 61 yX8_errs]
def wsL_law_r7 : List Cond := [Cond.instanceMethod yX8_errs, Cond.selects RX8 yX8_errs yX8_errs, Cond.code yX8_errs cX8_errs 2 (some .int), Cond.constant RX8 46 (-1000000000), Cond.methodLink RL 18 yX7_inArea, Cond.instanceMethod yX7_inArea, Cond.selects RX7 yX7_inArea yX7_inArea, Cond.code yX7_inArea cX7_inArea 2 (some .int), Cond.instanceMethod yX0_setInArea, Cond.selects RX0 yX0_setInArea yX0_setInArea, Cond.code yX0_setInArea cX0_setInArea 4 (some .int), Cond.fieldLink RX0 29 "KnivesGround$Ground" "many" "I", Cond.methodLink RL 22 yX8_inArea, Cond.instanceMethod yX8_inArea, Cond.selects RX8 yX8_inArea yX8_inArea, Cond.code yX8_inArea cX8_inArea 4 (some .int), Cond.methodLink RX8 65 yX8_its, Cond.instanceMethod yX8_its, Cond.selects RX8 yX8_its yX8_its, Cond.code yX8_its cX8_its 3 (some .int), Cond.methodLink RL 23 yX7_quarrel, Cond.instanceMethod yX7_quarrel, Cond.selects RX7 yX7_quarrel yX7_quarrel, Cond.code yX7_quarrel cX7_quarrel 7 (some .int)]
def wsL_law_r8 : List Cond := [Cond.constant RX7 90 (-1000000004), Cond.methodLink RX7 82 yX7_isKindAndM, Cond.static yX7_isKindAndM, Cond.code yX7_isKindAndM cX7_isKindAndM 1 (some .boolean), Cond.instanceMethod yX1_turnInto, Cond.selects RX1 yX1_turnInto yX1_turnInto, Cond.code yX1_turnInto cX1_turnInto 2 none, Cond.fieldLink RX1 9 "KnivesGround$One" "kind" "I", Cond.fieldLink RX1 15 "KnivesGround$One" "m" "I", Cond.methodLink RL 27 yX8_quarrel, Cond.instanceMethod yX8_quarrel, Cond.selects RX8 yX8_quarrel yX8_quarrel, Cond.code yX8_quarrel cX8_quarrel 6 (some .int), Cond.constant RX8 68 (-1000000004), Cond.methodLink RX8 69 yX8_gets, Cond.instanceMethod yX8_gets, Cond.selects RX8 yX8_gets yX8_gets, Cond.code yX8_gets cX8_gets 4 none, Cond.methodLink RL 28 yX7_ofQuarrel, Cond.instanceMethod yX7_ofQuarrel, Cond.selects RX7 yX7_ofQuarrel yX7_ofQuarrel, Cond.code yX7_ofQuarrel cX7_ofQuarrel 4 (some .int), Cond.methodLink RX7 117 yX7_isQuarrel, Cond.instanceMethod yX7_isQuarrel]
def wsL_law_r9 : List Cond := [Cond.selects RX7 yX7_isQuarrel yX7_isQuarrel, Cond.code yX7_isQuarrel cX7_isQuarrel 2 (some .boolean), Cond.instanceMethod yX0_gainsOf, Cond.selects RX0 yX0_gainsOf yX0_gainsOf, Cond.code yX0_gainsOf cX0_gainsOf 2 (some .int), Cond.fieldLink RX0 39 "KnivesGround$Ground" "day" "I", Cond.instanceMethod yX4_gives, Cond.selects RX4 yX4_gives yX4_gives, Cond.code yX4_gives cX4_gives 5 (some .int), Cond.methodLink RX4 41 Lib.Math.min.name, Cond.static Lib.Math.min.name, Cond.initialized "java/lang/Math", Cond.code Lib.Math.min.name Lib.Math.min.code 2 (some .int), Cond.methodLink RX4 47 Lib.Math.max.name, Cond.static Lib.Math.max.name, Cond.code Lib.Math.max.name Lib.Math.max.code 2 (some .int), Cond.methodLink RX4 37 yX4_workedOut, Cond.instanceMethod yX4_workedOut, Cond.selects RX4 yX4_workedOut yX4_workedOut, Cond.code yX4_workedOut cX4_workedOut 6 (some .int), Cond.methodLink RX4 50 yX4_joined, Cond.static yX4_joined, Cond.code yX4_joined cX4_joined 3 (some .int), Cond.instanceMethod yX1_gains]
def wsL_law_r10 : List Cond := [Cond.selects RX1 yX1_gains yX1_gains, Cond.code yX1_gains cX1_gains 3 (some .int), Cond.fieldLink RX1 27 "KnivesGround$One" "age" "I", Cond.methodLink RX1 38 Lib.Math.max.name, Cond.instanceMethod yX1_needs, Cond.selects RX1 yX1_needs yX1_needs, Cond.code yX1_needs cX1_needs 1 (some .int), Cond.instanceMethod yX1_dulls, Cond.selects RX1 yX1_dulls yX1_dulls, Cond.code yX1_dulls cX1_dulls 1 (some .int), Cond.methodLink RL 31 yX8_ofQuarrel, Cond.instanceMethod yX8_ofQuarrel, Cond.selects RX8 yX8_ofQuarrel yX8_ofQuarrel, Cond.code yX8_ofQuarrel cX8_ofQuarrel 3 (some .int), Cond.methodLink RX8 73 yX8_isQuarrel, Cond.instanceMethod yX8_isQuarrel, Cond.selects RX8 yX8_isQuarrel yX8_isQuarrel, Cond.code yX8_isQuarrel cX8_isQuarrel 2 (some .boolean), Cond.methodLink RX8 76 yX8_gains, Cond.instanceMethod yX8_gains, Cond.selects RX8 yX8_gains yX8_gains, Cond.code yX8_gains cX8_gains 4 (some .int), Cond.methodLink RX8 154 yX8_lawOf, Cond.instanceMethod yX8_lawOf]
def wsL_law_r11 : List Cond := [Cond.selects RX8 yX8_lawOf yX8_lawOf, Cond.code yX8_lawOf cX8_lawOf 5 (some .int), Cond.methodLink RX8 147 yX8_walks, Cond.instanceMethod yX8_walks, Cond.selects RX8 yX8_walks yX8_walks, Cond.code yX8_walks cX8_walks 9 (some .int), Cond.methodLink RX8 143 yX8_workedOut, Cond.static yX8_workedOut, Cond.code yX8_workedOut cX8_workedOut 3 (some .int), Cond.methodLink RX8 151 yX8_held, Cond.static yX8_held, Cond.code yX8_held cX8_held 3 (some .int), Cond.methodLink RX8 79 yX8_needs, Cond.instanceMethod yX8_needs, Cond.selects RX8 yX8_needs yX8_needs, Cond.code yX8_needs cX8_needs 3 (some .int), Cond.methodLink RX8 82 yX8_dulls, Cond.instanceMethod yX8_dulls, Cond.selects RX8 yX8_dulls yX8_dulls, Cond.code yX8_dulls cX8_dulls 2 (some .int), Cond.methodLink RL 32 yX7_change, Cond.instanceMethod yX7_change, Cond.selects RX7 yX7_change yX7_change, Cond.code yX7_change cX7_change 4 (some .int)]
def wsL_law_r12 : List Cond := [Cond.methodLink RX7 137 yX7_mostOfQuarrel, Cond.static yX7_mostOfQuarrel, Cond.code yX7_mostOfQuarrel cX7_mostOfQuarrel 1 (some .int), Cond.instanceMethod yX1_changeTo, Cond.selects RX1 yX1_changeTo yX1_changeTo, Cond.code yX1_changeTo cX1_changeTo 4 (some .int), Cond.fieldLink RX1 18 "KnivesGround$One" "area" "I", Cond.fieldLink RX1 21 "KnivesGround$One" "edge" "I", Cond.fieldLink RX1 30 "KnivesGround$One" "ended" "Z", Cond.methodLink RL 36 yX8_change, Cond.instanceMethod yX8_change, Cond.selects RX8 yX8_change yX8_change, Cond.code yX8_change cX8_change 5 (some .int), Cond.methodLink RL 37 yX7_become, Cond.instanceMethod yX7_become, Cond.selects RX7 yX7_become yX7_become, Cond.code yX7_become cX7_become 5 (some .int), Cond.methodLink RL 40 yX8_become, Cond.instanceMethod yX8_become, Cond.selects RX8 yX8_become yX8_become, Cond.code yX8_become cX8_become 3 (some .int), Cond.methodLink RL 41 yX7_as, Cond.instanceMethod yX7_as, Cond.selects RX7 yX7_as yX7_as]
def wsL_law_r13 : List Cond := [Cond.code yX7_as cX7_as 4 (some .int), Cond.constant RX7 146 (-1000000005), Cond.instanceMethod yX1_isOfKind, Cond.selects RX1 yX1_isOfKind yX1_isOfKind, Cond.code yX1_isOfKind cX1_isOfKind 2 (some .boolean), Cond.methodLink RL 44 yX8_as, Cond.instanceMethod yX8_as, Cond.selects RX8 yX8_as yX8_as, Cond.code yX8_as cX8_as 4 (some .int), Cond.constant RX8 88 (-1000000005), Cond.methodLink RX8 85 yX8_above, Cond.static yX8_above, Cond.code yX8_above cX8_above 1 (some .int), Cond.methodLink RL 47 yX7_feed, Cond.instanceMethod yX7_feed, Cond.selects RX7 yX7_feed yX7_feed, Cond.code yX7_feed cX7_feed 5 (some .int), Cond.methodLink RL 51 yX8_feed, Cond.instanceMethod yX8_feed, Cond.selects RX8 yX8_feed yX8_feed, Cond.code yX8_feed cX8_feed 5 (some .int), Cond.constantLong RX8 157 (255), Cond.methodLink RL 52 yX7_text, Cond.instanceMethod yX7_text]
def wsL_law_r14 : List Cond := [Cond.selects RX7 yX7_text yX7_text, Cond.code yX7_text cX7_text 3 (some .int), Cond.instanceMethod yX2_read, Cond.selects RX2 yX2_read yX2_read, Cond.code yX2_read cX2_read 4 (some .int), Cond.methodLink RX2 22 Lib.Math.min.name, Cond.fieldLink RX2 28 "KnivesGround$Reader" "many" "I", Cond.methodLink RX2 32 arraycopyName, Cond.native arraycopyName, Cond.static arraycopyName, Cond.initialized "java/lang/System", Cond.fieldLink RX2 38 "KnivesGround$Reader" "place" "I", Cond.fieldLink RX2 41 "KnivesGround$Reader" "fault" "I", Cond.methodLink RX2 48 yX2_readLevel, Cond.instanceMethod yX2_readLevel, Cond.selects RX2 yX2_readLevel yX2_readLevel, Cond.code yX2_readLevel cX2_readLevel 8 (some .int), Cond.methodLink RX2 51 yX2_readInnermost, Cond.instanceMethod yX2_readInnermost, Cond.selects RX2 yX2_readInnermost yX2_readInnermost, Cond.methodLink RX2 55 yX2_next, Cond.instanceMethod yX2_next, Cond.selects RX2 yX2_next yX2_next, Cond.code yX2_next cX2_next 1 (some .int)]
def wsL_law_r15 : List Cond := [Cond.methodLink RX2 59 yX2_levelOf, Cond.static yX2_levelOf, Cond.code yX2_levelOf cX2_levelOf 1 (some .int), Cond.instanceMethod yX4_add, Cond.selects RX4 yX4_add yX4_add, Cond.code yX4_add cX4_add 4 (some .int), Cond.code yX2_readBrackets cX2_readBrackets 3 (some .int), Cond.methodLink RX2 82 yX2_stop, Cond.instanceMethod yX2_stop, Cond.selects RX2 yX2_stop yX2_stop, Cond.code yX2_stop cX2_stop 1 (some .int), Cond.code yX2_readInnermost cX2_readInnermost 3 (some .int), Cond.methodLink RX2 66 yX2_isDigit, Cond.static yX2_isDigit, Cond.code yX2_isDigit cX2_isDigit 1 (some .boolean), Cond.methodLink RX2 70 yX2_readNumber, Cond.instanceMethod yX2_readNumber, Cond.selects RX2 yX2_readNumber yX2_readNumber, Cond.code yX2_readNumber cX2_readNumber 3 (some .int), Cond.methodLink RX2 73 yX2_nameOf, Cond.instanceMethod yX2_nameOf, Cond.selects RX2 yX2_nameOf yX2_nameOf, Cond.code yX2_nameOf cX2_nameOf 2 (some .int), Cond.methodLink RX2 76 yX2_readNot]
def wsL_law_r16 : List Cond := [Cond.instanceMethod yX2_readNot, Cond.selects RX2 yX2_readNot yX2_readNot, Cond.methodLink RX2 79 yX2_readBrackets, Cond.instanceMethod yX2_readBrackets, Cond.selects RX2 yX2_readBrackets yX2_readBrackets, Cond.code yX2_readNot cX2_readNot 3 (some .int), Cond.instanceMethod yX6_textOf, Cond.selects RX6 yX6_textOf yX6_textOf, Cond.code yX6_textOf cX6_textOf 2 (some (.object "KnivesGround$Text")), Cond.instanceMethod yX4_copyFrom, Cond.selects RX4 yX4_copyFrom yX4_copyFrom, Cond.code yX4_copyFrom cX4_copyFrom 2 none, Cond.methodLink RX4 31 arraycopyName, Cond.methodLink RL 55 yX8_text, Cond.instanceMethod yX8_text, Cond.selects RX8 yX8_text yX8_text, Cond.code yX8_text cX8_text 3 (some .int), Cond.fieldLink RX8 113 "KnivesGroundModel" "use" "I", Cond.fieldLink RX8 100 "KnivesGroundModel" "at" "I", Cond.fieldLink RX8 89 "KnivesGroundModel" "end" "I", Cond.fieldLink RX8 122 "KnivesGroundModel" "open" "I", Cond.fieldLink RX8 97 "KnivesGroundModel" "steps" "I", Cond.fieldLink RX8 93 "KnivesGroundModel" "good" "Z", Cond.methodLink RX8 128 yX8_whole]
def wsL_law_r17 : List Cond := [Cond.instanceMethod yX8_whole, Cond.selects RX8 yX8_whole yX8_whole, Cond.code yX8_whole cX8_whole 1 none, Cond.methodLink RX8 140 yX8_both, Cond.instanceMethod yX8_both, Cond.selects RX8 yX8_both yX8_both, Cond.methodLink RX8 103 yX8_byteAt, Cond.instanceMethod yX8_byteAt, Cond.selects RX8 yX8_byteAt yX8_byteAt, Cond.code yX8_byteAt cX8_byteAt 2 (some .int), Cond.methodLink RX8 109 yX8_adds, Cond.instanceMethod yX8_adds, Cond.selects RX8 yX8_adds yX8_adds, Cond.code yX8_adds cX8_adds 2 none, Cond.code yX8_both cX8_both 1 none, Cond.methodLink RX8 137 yX8_compared, Cond.instanceMethod yX8_compared, Cond.selects RX8 yX8_compared yX8_compared, Cond.code yX8_compared cX8_compared 2 none, Cond.methodLink RX8 134 yX8_sum, Cond.instanceMethod yX8_sum, Cond.selects RX8 yX8_sum yX8_sum, Cond.code yX8_factor cX8_factor 2 none, Cond.methodLink RX8 106 yX8_isDigit]
def wsL_law_r18 : List Cond := [Cond.static yX8_isDigit, Cond.code yX8_isDigit cX8_isDigit 1 (some .boolean), Cond.methodLink RX8 116 yX8_number, Cond.instanceMethod yX8_number, Cond.selects RX8 yX8_number yX8_number, Cond.code yX8_number cX8_number 3 none, Cond.methodLink RX8 119 yX8_named, Cond.instanceMethod yX8_named, Cond.selects RX8 yX8_named yX8_named, Cond.code yX8_named cX8_named 5 none, Cond.methodLink RX8 125 yX8_factor, Cond.instanceMethod yX8_factor, Cond.selects RX8 yX8_factor yX8_factor, Cond.code yX8_product cX8_product 2 none, Cond.code yX8_sum cX8_sum 2 none, Cond.methodLink RX8 131 yX8_product, Cond.instanceMethod yX8_product, Cond.selects RX8 yX8_product yX8_product, Cond.methodLink RL 56 yX7_law, Cond.instanceMethod yX7_law, Cond.selects RX7 yX7_law yX7_law, Cond.code yX7_law cX7_law 5 (some .int), Cond.methodLink RL 59 yX8_law, Cond.instanceMethod yX8_law]
def wsL_law_r19 : List Cond := [Cond.selects RX8 yX8_law yX8_law, Cond.code yX8_law cX8_law 5 (some .int), Cond.methodLink RL 60 yX7_days, Cond.instanceMethod yX7_days, Cond.selects RX7 yX7_days yX7_days, Cond.code yX7_days cX7_days 3 (some .int), Cond.constant RX7 177 (-1000000003), Cond.instanceMethod yX0_passDay, Cond.selects RX0 yX0_passDay yX0_passDay, Cond.code yX0_passDay cX0_passDay 2 none, Cond.methodLink RX0 48 yX0_grindArea, Cond.instanceMethod yX0_grindArea, Cond.selects RX0 yX0_grindArea yX0_grindArea, Cond.code yX0_grindArea cX0_grindArea 3 none, Cond.methodLink RX0 72 Lib.Math.min.name, Cond.constant RX0 78 (99999), Cond.methodLink RX0 68 yX0_gainsOf, Cond.methodLink RX0 51 yX0_restDay, Cond.instanceMethod yX0_restDay, Cond.selects RX0 yX0_restDay yX0_restDay, Cond.code yX0_restDay cX0_restDay 2 none, Cond.methodLink RX0 55 yX0_endOrDull, Cond.instanceMethod yX0_endOrDull, Cond.selects RX0 yX0_endOrDull yX0_endOrDull]
def wsL_law_r20 : List Cond := [Cond.code yX0_endOrDull cX0_endOrDull 4 none, Cond.methodLink RX0 102 Lib.Math.max.name, Cond.methodLink RX0 83 yX0_isFree, Cond.instanceMethod yX0_isFree, Cond.selects RX0 yX0_isFree yX0_isFree, Cond.code yX0_isFree cX0_isFree 2 (some .boolean), Cond.instanceMethod yX0_endedMany, Cond.selects RX0 yX0_endedMany yX0_endedMany, Cond.code yX0_endedMany cX0_endedMany 1 (some .int), Cond.methodLink RX0 122 yX0_setEnded, Cond.instanceMethod yX0_setEnded, Cond.selects RX0 yX0_setEnded yX0_setEnded, Cond.code yX0_setEnded cX0_setEnded 3 (some .int), Cond.methodLink RX0 125 yJ6_bitCount_0f7a4, Cond.static yJ6_bitCount_0f7a4, Cond.initialized RJ6, Cond.code yJ6_bitCount_0f7a4 cJ6_bitCount_0f7a4 1 (some .int), Cond.constant RJ6 265 (1431655765), Cond.constant RJ6 266 (858993459), Cond.constant RJ6 267 (252645135), Cond.methodLink RL 63 yX8_days, Cond.instanceMethod yX8_days, Cond.selects RX8 yX8_days yX8_days, Cond.code yX8_days cX8_days 2 (some .int)]
def wsL_law_r21 : List Cond := [Cond.constant RX8 186 (-1000000003), Cond.methodLink RX8 179 yX8_passes, Cond.instanceMethod yX8_passes, Cond.selects RX8 yX8_passes yX8_passes, Cond.code yX8_passes cX8_passes 3 none, Cond.methodLink RX8 171 yX8_oneDay, Cond.instanceMethod yX8_oneDay, Cond.selects RX8 yX8_oneDay yX8_oneDay, Cond.code yX8_oneDay cX8_oneDay 3 none, Cond.methodLink RX8 165 yX8_grindsAll, Cond.instanceMethod yX8_grindsAll, Cond.selects RX8 yX8_grindsAll yX8_grindsAll, Cond.code yX8_grindsAll cX8_grindsAll 2 none, Cond.methodLink RX8 159 yX8_isOver, Cond.instanceMethod yX8_isOver, Cond.selects RX8 yX8_isOver yX8_isOver, Cond.code yX8_isOver cX8_isOver 2 (some .boolean), Cond.methodLink RX8 168 yX8_goesOn, Cond.instanceMethod yX8_goesOn, Cond.selects RX8 yX8_goesOn yX8_goesOn, Cond.code yX8_goesOn cX8_goesOn 2 none, Cond.methodLink RX8 162 yX8_isLoose, Cond.instanceMethod yX8_isLoose, Cond.selects RX8 yX8_isLoose yX8_isLoose]
def wsL_law_r22 : List Cond := [Cond.code yX8_isLoose cX8_isLoose 2 (some .boolean), Cond.methodLink RX8 182 yX8_overSet, Cond.instanceMethod yX8_overSet, Cond.selects RX8 yX8_overSet yX8_overSet, Cond.code yX8_overSet cX8_overSet 3 (some .int), Cond.methodLink RX8 187 yX8_bits, Cond.static yX8_bits, Cond.code yX8_bits cX8_bits 3 (some .int), Cond.methodLink RL 64 yX7_loose, Cond.instanceMethod yX7_loose, Cond.selects RX7 yX7_loose yX7_loose, Cond.code yX7_loose cX7_loose 3 (some .int), Cond.instanceMethod yX6_draw, Cond.selects RX6 yX6_draw yX6_draw, Cond.code yX6_draw cX6_draw 1 (some .int), Cond.constant RX6 45 (1103515245), Cond.methodLink RL 67 yX8_loose, Cond.instanceMethod yX8_loose, Cond.selects RX8 yX8_loose yX8_loose, Cond.code yX8_loose cX8_loose 3 (some .int), Cond.methodLink RX8 191 yX8_drawn, Cond.instanceMethod yX8_drawn, Cond.selects RX8 yX8_drawn yX8_drawn, Cond.code yX8_drawn cX8_drawn 2 (some .int)]
def wsL_law_r23 : List Cond := [Cond.constant RX8 190 (1103515245), Cond.methodLink RL 68 yX7_then, Cond.instanceMethod yX7_then, Cond.selects RX7 yX7_then yX7_then, Cond.code yX7_then cX7_then 5 (some .int), Cond.methodLink RX7 191 yX7_think, Cond.instanceMethod yX7_think, Cond.selects RX7 yX7_think yX7_think, Cond.code yX7_think cX7_think 1 none, Cond.instanceMethod yX0_copyFrom, Cond.selects RX0 yX0_copyFrom yX0_copyFrom, Cond.code yX0_copyFrom cX0_copyFrom 3 none, Cond.instanceMethod yX1_copyFrom, Cond.selects RX1 yX1_copyFrom yX1_copyFrom, Cond.code yX1_copyFrom cX1_copyFrom 2 none, Cond.fieldLink RX1 24 "KnivesGround$One" "on" "I", Cond.methodLink RX7 194 yX7_thinkDays, Cond.instanceMethod yX7_thinkDays, Cond.selects RX7 yX7_thinkDays yX7_thinkDays, Cond.code yX7_thinkDays cX7_thinkDays 3 none, Cond.methodLink RL 71 yX8_then, Cond.instanceMethod yX8_then, Cond.selects RX8 yX8_then yX8_then, Cond.code yX8_then cX8_then 5 (some .int)]
def wsL_law_r24 : List Cond := [Cond.methodLink RX8 175 yX8_moveAll, Cond.instanceMethod yX8_moveAll, Cond.selects RX8 yX8_moveAll yX8_moveAll, Cond.code yX8_moveAll cX8_moveAll 4 none, Cond.methodLink RL 72 yX7_when, Cond.instanceMethod yX7_when, Cond.selects RX7 yX7_when yX7_when, Cond.code yX7_when cX7_when 3 (some .int), Cond.constant RX7 197 (-1000000002), Cond.methodLink RL 75 yX8_when, Cond.instanceMethod yX8_when, Cond.selects RX8 yX8_when yX8_when, Cond.code yX8_when cX8_when 3 (some .int), Cond.constant RX8 194 (-1000000002), Cond.methodLink RL 76 yX7_ended, Cond.instanceMethod yX7_ended, Cond.selects RX7 yX7_ended yX7_ended, Cond.code yX7_ended cX7_ended 2 (some .int), Cond.methodLink RL 79 yX8_ended, Cond.instanceMethod yX8_ended, Cond.selects RX8 yX8_ended yX8_ended, Cond.code yX8_ended cX8_ended 2 (some .int), Cond.methodLink RX8 195 yX8_overBehind, Cond.instanceMethod yX8_overBehind]
def wsL_law_r25 : List Cond := [Cond.selects RX8 yX8_overBehind yX8_overBehind, Cond.code yX8_overBehind cX8_overBehind 3 (some .int), Cond.methodLink RL 80 yX7_start, Cond.instanceMethod yX7_start, Cond.selects RX7 yX7_start yX7_start, Cond.code yX7_start cX7_start 6 (some .int), Cond.methodLink RL 83 yX8_start, Cond.instanceMethod yX8_start, Cond.selects RX8 yX8_start yX8_start, Cond.code yX8_start cX8_start 3 (some .int), Cond.methodLink RX8 198 yX8_mostOver, Cond.instanceMethod yX8_mostOver, Cond.selects RX8 yX8_mostOver yX8_mostOver, Cond.code yX8_mostOver cX8_mostOver 9 (some .int), Cond.methodLink RL 84 yX7_pace, Cond.instanceMethod yX7_pace, Cond.selects RX7 yX7_pace yX7_pace, Cond.code yX7_pace cX7_pace 6 (some .int), Cond.methodLink RL 87 yX8_pace, Cond.instanceMethod yX8_pace, Cond.selects RX8 yX8_pace yX8_pace, Cond.code yX8_pace cX8_pace 3 (some .int), Cond.methodLink RL 88 yX7_hand, Cond.instanceMethod yX7_hand]
def wsL_law_r26 : List Cond := [Cond.selects RX7 yX7_hand yX7_hand, Cond.code yX7_hand cX7_hand 7 (some .int), Cond.instanceMethod yX0_setItHangsOn, Cond.selects RX0 yX0_setItHangsOn yX0_setItHangsOn, Cond.code yX0_setItHangsOn cX0_setItHangsOn 4 (some .int), Cond.methodLink RX7 207 yJ6_bitCount_0f7a4, Cond.instanceMethod yX0_sharpen, Cond.selects RX0 yX0_sharpen yX0_sharpen, Cond.code yX0_sharpen cX0_sharpen 3 none, Cond.methodLink RX7 215 yX7_endsInThought, Cond.instanceMethod yX7_endsInThought, Cond.selects RX7 yX7_endsInThought yX7_endsInThought, Cond.code yX7_endsInThought cX7_endsInThought 5 (some .boolean), Cond.methodLink RL 91 yX8_hand, Cond.instanceMethod yX8_hand, Cond.selects RX8 yX8_hand yX8_hand, Cond.code yX8_hand cX8_hand 6 (some .int), Cond.methodLink RX8 201 yX8_isOverBy, Cond.instanceMethod yX8_isOverBy, Cond.selects RX8 yX8_isOverBy yX8_isOverBy, Cond.code yX8_isOverBy cX8_isOverBy 5 (some .boolean), Cond.methodLink RL 92 yX7_first, Cond.instanceMethod yX7_first, Cond.selects RX7 yX7_first yX7_first]
def wsL_law_r27 : List Cond := [Cond.code yX7_first cX7_first 6 (some .int), Cond.methodLink RX7 219 yX7_thinkDaysWithHarm, Cond.instanceMethod yX7_thinkDaysWithHarm, Cond.selects RX7 yX7_thinkDaysWithHarm yX7_thinkDaysWithHarm, Cond.code yX7_thinkDaysWithHarm cX7_thinkDaysWithHarm 3 none, Cond.methodLink RL 95 yX8_first, Cond.instanceMethod yX8_first, Cond.selects RX8 yX8_first yX8_first, Cond.code yX8_first cX8_first 7 (some .int), Cond.constant RX8 204 (100000), Cond.methodLink RL 96 yX7_sparks, Cond.instanceMethod yX7_sparks, Cond.selects RX7 yX7_sparks yX7_sparks, Cond.code yX7_sparks cX7_sparks 6 (some .int), Cond.methodLink RX7 225 yX7_isSheet, Cond.static yX7_isSheet, Cond.code yX7_isSheet cX7_isSheet 1 (some .boolean), Cond.instanceMethod yX3_isMissing, Cond.selects RX3 yX3_isMissing yX3_isMissing, Cond.code yX3_isMissing cX3_isMissing 1 (some .boolean), Cond.fieldLink RX3 15 "KnivesGround$Sheet" "bits" "I", Cond.instanceMethod yX0_hasEdges, Cond.selects RX0 yX0_hasEdges yX0_hasEdges, Cond.code yX0_hasEdges cX0_hasEdges 3 (some .boolean)]
def wsL_law_r28 : List Cond := [Cond.methodLink RL 99 yX8_sparks, Cond.instanceMethod yX8_sparks, Cond.selects RX8 yX8_sparks yX8_sparks, Cond.code yX8_sparks cX8_sparks 5 (some .int), Cond.methodLink RX8 205 yX8_isSheet, Cond.static yX8_isSheet, Cond.code yX8_isSheet cX8_isSheet 1 (some .boolean), Cond.methodLink RX8 208 yX8_areEdgesSo, Cond.instanceMethod yX8_areEdgesSo, Cond.selects RX8 yX8_areEdgesSo yX8_areEdgesSo, Cond.code yX8_areEdgesSo cX8_areEdgesSo 4 (some .boolean), Cond.methodLink RL 100 yX7_last, Cond.instanceMethod yX7_last, Cond.selects RX7 yX7_last yX7_last, Cond.code yX7_last cX7_last 7 (some .int), Cond.methodLink RX7 237 yX7_greatestOf, Cond.static yX7_greatestOf, Cond.code yX7_greatestOf cX7_greatestOf 3 (some .int), Cond.methodLink RL 103 yX8_last, Cond.instanceMethod yX8_last, Cond.selects RX8 yX8_last yX8_last, Cond.code yX8_last cX8_last 9 (some .int), Cond.methodLink RL 104 yX7_sharp, Cond.instanceMethod yX7_sharp]
def wsL_law_r29 : List Cond := [Cond.selects RX7 yX7_sharp yX7_sharp, Cond.code yX7_sharp cX7_sharp 4 (some .int), Cond.methodLink RL 107 yX8_sharp, Cond.instanceMethod yX8_sharp, Cond.selects RX8 yX8_sharp yX8_sharp, Cond.code yX8_sharp cX8_sharp 6 (some .int), Cond.methodLink RL 108 yX7_off, Cond.instanceMethod yX7_off, Cond.selects RX7 yX7_off yX7_off, Cond.code yX7_off cX7_off 3 (some .int), Cond.methodLink RL 111 yX8_off, Cond.instanceMethod yX8_off, Cond.selects RX8 yX8_off yX8_off, Cond.code yX8_off cX8_off 3 (some .int), Cond.methodLink RL 112 yX7_chain, Cond.instanceMethod yX7_chain, Cond.selects RX7 yX7_chain yX7_chain, Cond.code yX7_chain cX7_chain 2 (some .int), Cond.instanceMethod yX0_setHangingOn, Cond.selects RX0 yX0_setHangingOn yX0_setHangingOn, Cond.code yX0_setHangingOn cX0_setHangingOn 5 (some .int), Cond.methodLink RL 115 yX8_chain, Cond.instanceMethod yX8_chain, Cond.selects RX8 yX8_chain yX8_chain]
def wsL_law_r30 : List Cond := [Cond.code yX8_chain cX8_chain 6 (some .int), Cond.methodLink RL 116 yX7_fee, Cond.instanceMethod yX7_fee, Cond.selects RX7 yX7_fee yX7_fee, Cond.code yX7_fee cX7_fee 2 (some .int), Cond.methodLink RL 119 yX8_fee, Cond.instanceMethod yX8_fee, Cond.selects RX8 yX8_fee yX8_fee, Cond.code yX8_fee cX8_fee 3 (some .int), Cond.methodLink RL 120 yX7_free, Cond.instanceMethod yX7_free, Cond.selects RX7 yX7_free yX7_free, Cond.code yX7_free cX7_free 1 (some .int), Cond.instanceMethod yX0_setFree, Cond.selects RX0 yX0_setFree yX0_setFree, Cond.code yX0_setFree cX0_setFree 3 (some .int), Cond.methodLink RL 124 yX8_free, Cond.instanceMethod yX8_free, Cond.selects RX8 yX8_free yX8_free, Cond.code yX8_free cX8_free 3 (some .int), Cond.methodLink RL 125 yX7_odds, Cond.instanceMethod yX7_odds, Cond.selects RX7 yX7_odds yX7_odds, Cond.code yX7_odds cX7_odds 6 (some .int)]
def wsL_law_r31 : List Cond := [Cond.methodLink RX7 252 yX7_greatestDivisor, Cond.static yX7_greatestDivisor, Cond.code yX7_greatestDivisor cX7_greatestDivisor 3 (some .int), Cond.methodLink RL 128 yX8_odds, Cond.instanceMethod yX8_odds, Cond.selects RX8 yX8_odds yX8_odds, Cond.code yX8_odds cX8_odds 7 (some .int), Cond.methodLink RX8 211 yX8_divisor, Cond.static yX8_divisor, Cond.code yX8_divisor cX8_divisor 5 (some .int), Cond.methodLink RL 129 yX7_seed, Cond.instanceMethod yX7_seed, Cond.selects RX7 yX7_seed yX7_seed, Cond.code yX7_seed cX7_seed 3 (some .int), Cond.methodLink RL 132 yX8_seed, Cond.instanceMethod yX8_seed, Cond.selects RX8 yX8_seed yX8_seed, Cond.code yX8_seed cX8_seed 3 (some .int), Cond.methodLink RL 133 yX7_voice, Cond.instanceMethod yX7_voice, Cond.selects RX7 yX7_voice yX7_voice, Cond.code yX7_voice cX7_voice 5 (some .int), Cond.instanceMethod yX5_beginWith, Cond.selects RX5 yX5_beginWith yX5_beginWith]
def wsL_law_r32 : List Cond := [Cond.code yX5_beginWith cX5_beginWith 4 none, Cond.fieldLink RX5 15 "KnivesGround$Voices" "bodies" "I", Cond.fieldLink RX5 19 "KnivesGround$Voices" "own" "I", Cond.fieldLink RX5 22 "KnivesGround$Voices" "n" "I", Cond.fieldLink RX5 25 "KnivesGround$Voices" "m" "I", Cond.instanceMethod yX5_say, Cond.selects RX5 yX5_say yX5_say, Cond.code yX5_say cX5_say 3 (some .int), Cond.methodLink RX5 28 yX5_sayGrinds, Cond.instanceMethod yX5_sayGrinds, Cond.selects RX5 yX5_sayGrinds yX5_sayGrinds, Cond.code yX5_sayGrinds cX5_sayGrinds 3 (some .int), Cond.methodLink RX5 41 yX5_begin, Cond.instanceMethod yX5_begin, Cond.selects RX5 yX5_begin yX5_begin, Cond.code yX5_begin cX5_begin 2 none, Cond.methodLink RX5 32 yX5_sayCuts, Cond.instanceMethod yX5_sayCuts, Cond.selects RX5 yX5_sayCuts yX5_sayCuts, Cond.code yX5_sayCuts cX5_sayCuts 3 (some .int), Cond.methodLink RX5 35 yX5_saySparks, Cond.instanceMethod yX5_saySparks, Cond.selects RX5 yX5_saySparks yX5_saySparks, Cond.code yX5_saySparks cX5_saySparks 3 (some .int)]
def wsL_law_r33 : List Cond := [Cond.methodLink RX5 38 yX5_sayTells, Cond.instanceMethod yX5_sayTells, Cond.selects RX5 yX5_sayTells yX5_sayTells, Cond.code yX5_sayTells cX5_sayTells 3 (some .int), Cond.methodLink RL 136 yX8_voice, Cond.instanceMethod yX8_voice, Cond.selects RX8 yX8_voice yX8_voice, Cond.code yX8_voice cX8_voice 4 (some .int), Cond.fieldLink RX8 214 "KnivesGroundModel" "tracedMany" "I", Cond.fieldLink RX8 232 "KnivesGroundModel" "voiceKind" "I", Cond.fieldLink RX8 220 "KnivesGroundModel" "voiceN" "I", Cond.fieldLink RX8 226 "KnivesGroundModel" "voiceM" "I", Cond.methodLink RX8 223 yX8_grindsIn, Cond.instanceMethod yX8_grindsIn, Cond.selects RX8 yX8_grindsIn yX8_grindsIn, Cond.code yX8_grindsIn cX8_grindsIn 3 (some .int), Cond.methodLink RX8 217 yX8_ran, Cond.instanceMethod yX8_ran, Cond.selects RX8 yX8_ran yX8_ran, Cond.code yX8_ran cX8_ran 2 none, Cond.methodLink RX8 235 yX8_cutsIn, Cond.instanceMethod yX8_cutsIn, Cond.selects RX8 yX8_cutsIn yX8_cutsIn, Cond.code yX8_cutsIn cX8_cutsIn 4 (some .int)]
def wsL_law_r34 : List Cond := [Cond.methodLink RX8 229 yX8_sparksIn, Cond.instanceMethod yX8_sparksIn, Cond.selects RX8 yX8_sparksIn yX8_sparksIn, Cond.code yX8_sparksIn cX8_sparksIn 3 (some .int), Cond.methodLink RX8 238 yX8_tellsIn, Cond.instanceMethod yX8_tellsIn, Cond.selects RX8 yX8_tellsIn yX8_tellsIn, Cond.code yX8_tellsIn cX8_tellsIn 4 (some .int), Cond.methodLink RL 137 yX7_trace, Cond.instanceMethod yX7_trace, Cond.selects RX7 yX7_trace yX7_trace, Cond.code yX7_trace cX7_trace 2 (some .int), Cond.methodLink RL 140 yX8_trace, Cond.instanceMethod yX8_trace, Cond.selects RX8 yX8_trace yX8_trace, Cond.code yX8_trace cX8_trace 2 (some .int), Cond.methodLink RL 141 yX7_sheet, Cond.instanceMethod yX7_sheet, Cond.selects RX7 yX7_sheet yX7_sheet, Cond.code yX7_sheet cX7_sheet 4 (some .int), Cond.instanceMethod yX3_lay, Cond.selects RX3 yX3_lay yX3_lay, Cond.code yX3_lay cX3_lay 4 none, Cond.fieldLink RX3 19 "KnivesGround$Sheet" "many" "I"]
def wsL_law_r35 : List Cond := [Cond.methodLink RL 144 yX8_sheet, Cond.instanceMethod yX8_sheet, Cond.selects RX8 yX8_sheet yX8_sheet, Cond.code yX8_sheet cX8_sheet 5 (some .int), Cond.methodLink RL 145 yX7_put, Cond.instanceMethod yX7_put, Cond.selects RX7 yX7_put yX7_put, Cond.code yX7_put cX7_put 5 (some .int), Cond.instanceMethod yX3_write, Cond.selects RX3 yX3_write yX3_write, Cond.code yX3_write cX3_write 3 none, Cond.methodLink RL 148 yX8_put, Cond.instanceMethod yX8_put, Cond.selects RX8 yX8_put yX8_put, Cond.code yX8_put cX8_put 4 (some .int), Cond.methodLink RX8 241 yX8_narrow, Cond.static yX8_narrow, Cond.code yX8_narrow cX8_narrow 2 (some .int), Cond.methodLink RL 149 yX7_move, Cond.instanceMethod yX7_move, Cond.selects RX7 yX7_move yX7_move, Cond.code yX7_move cX7_move 8 (some .int), Cond.methodLink RX7 287 arraycopyName, Cond.instanceMethod yX3_hasNumbers]
def wsL_law_r36 : List Cond := [Cond.selects RX3 yX3_hasNumbers yX3_hasNumbers, Cond.code yX3_hasNumbers cX3_hasNumbers 3 (some .boolean), Cond.methodLink RL 153 yX8_move, Cond.instanceMethod yX8_move, Cond.selects RX8 yX8_move yX8_move, Cond.code yX8_move cX8_move 7 (some .int), Cond.methodLink RL 154 yX7_edges, Cond.instanceMethod yX7_edges, Cond.selects RX7 yX7_edges yX7_edges, Cond.code yX7_edges cX7_edges 5 (some .int), Cond.methodLink RX7 293 Lib.Math.min.name, Cond.methodLink RL 157 yX8_edges, Cond.instanceMethod yX8_edges, Cond.selects RX8 yX8_edges yX8_edges, Cond.code yX8_edges cX8_edges 3 (some .int), Cond.methodLink RL 158 yX7_judge, Cond.instanceMethod yX7_judge, Cond.selects RX7 yX7_judge yX7_judge, Cond.code yX7_judge cX7_judge 5 (some .int), Cond.methodLink RL 161 yX8_judge, Cond.instanceMethod yX8_judge, Cond.selects RX8 yX8_judge yX8_judge, Cond.code yX8_judge cX8_judge 3 (some .int), Cond.methodLink RL 162 yX7_image]
def wsL_law_r37 : List Cond := [Cond.instanceMethod yX7_image, Cond.selects RX7 yX7_image yX7_image, Cond.code yX7_image cX7_image 1 (some .int), Cond.fieldLink RX7 301 "KnivesGround" "images" "I", Cond.instanceMethod yX6_copyFrom, Cond.selects RX6 yX6_copyFrom yX6_copyFrom, Cond.code yX6_copyFrom cX6_copyFrom 2 none, Cond.fieldLink RX6 53 "KnivesGround$Whole" "bytes" "I", Cond.methodLink RX6 56 arraycopyName, Cond.fieldLink RX6 62 "KnivesGround$Whole" "waits" "I", Cond.methodLink RL 165 yX8_image, Cond.instanceMethod yX8_image, Cond.selects RX8 yX8_image yX8_image, Cond.code yX8_image cX8_image 1 (some .int), Cond.fieldLink RX8 244 "KnivesGroundModel" "isKept" "Z", Cond.fieldLink RX8 247 "KnivesGroundModel" "images" "I", Cond.methodLink RL 166 yX7_restore, Cond.instanceMethod yX7_restore, Cond.selects RX7 yX7_restore yX7_restore, Cond.code yX7_restore cX7_restore 1 (some .int), Cond.methodLink RL 169 yX8_restore, Cond.instanceMethod yX8_restore, Cond.selects RX8 yX8_restore yX8_restore, Cond.code yX8_restore cX8_restore 1 (some .int)]
def wsL_law_r38 : List Cond := [Cond.methodLink RL 170 yX7_tell, Cond.instanceMethod yX7_tell, Cond.selects RX7 yX7_tell yX7_tell, Cond.code yX7_tell cX7_tell 2 (some .int), Cond.methodLink RL 173 yX8_tell, Cond.instanceMethod yX8_tell, Cond.selects RX8 yX8_tell yX8_tell, Cond.code yX8_tell cX8_tell 2 (some .int), Cond.methodLink RL 174 yX7_check, Cond.instanceMethod yX7_check, Cond.selects RX7 yX7_check yX7_check, Cond.code yX7_check cX7_check 3 (some .int), Cond.methodLink RL 177 yX8_check, Cond.instanceMethod yX8_check, Cond.selects RX8 yX8_check yX8_check, Cond.code yX8_check cX8_check 4 (some .int), Cond.methodLink RL 178 yX7_count, Cond.instanceMethod yX7_count, Cond.selects RX7 yX7_count yX7_count, Cond.code yX7_count cX7_count 3 (some .int), Cond.instanceMethod yX0_edgesTogether, Cond.selects RX0 yX0_edgesTogether yX0_edgesTogether, Cond.code yX0_edgesTogether cX0_edgesTogether 3 (some .int), Cond.methodLink RL 181 yX8_count]
def wsL_law_r39 : List Cond := [Cond.instanceMethod yX8_count, Cond.selects RX8 yX8_count yX8_count, Cond.code yX8_count cX8_count 2 (some .int), Cond.methodLink RX8 250 yX8_edgesOfAll, Cond.instanceMethod yX8_edgesOfAll, Cond.selects RX8 yX8_edgesOfAll yX8_edgesOfAll, Cond.code yX8_edgesOfAll cX8_edgesOfAll 3 (some .int), Cond.methodLink RL 182 yX7_told, Cond.instanceMethod yX7_told, Cond.selects RX7 yX7_told yX7_told, Cond.code yX7_told cX7_told 2 (some .int), Cond.methodLink RL 185 yX8_told, Cond.instanceMethod yX8_told, Cond.selects RX8 yX8_told yX8_told, Cond.code yX8_told cX8_told 2 (some .int)]
def wsL_law : List Cond := (wsL_law_r1 ++ (wsL_law_r2 ++ (wsL_law_r3 ++ (wsL_law_r4 ++ (wsL_law_r5 ++ (wsL_law_r6 ++ (wsL_law_r7 ++ (wsL_law_r8 ++ (wsL_law_r9 ++ (wsL_law_r10 ++ (wsL_law_r11 ++ (wsL_law_r12 ++ (wsL_law_r13 ++ (wsL_law_r14 ++ (wsL_law_r15 ++ (wsL_law_r16 ++ (wsL_law_r17 ++ (wsL_law_r18 ++ (wsL_law_r19 ++ (wsL_law_r20 ++ (wsL_law_r21 ++ (wsL_law_r22 ++ (wsL_law_r23 ++ (wsL_law_r24 ++ (wsL_law_r25 ++ (wsL_law_r26 ++ (wsL_law_r27 ++ (wsL_law_r28 ++ (wsL_law_r29 ++ (wsL_law_r30 ++ (wsL_law_r31 ++ (wsL_law_r32 ++ (wsL_law_r33 ++ (wsL_law_r34 ++ (wsL_law_r35 ++ (wsL_law_r36 ++ (wsL_law_r37 ++ (wsL_law_r38 ++ wsL_law_r39)))))))))))))))))))))))))))))))))))))) ++ wsX70 ++ wsX80 ++ wsX60 ++ wsX00 ++ wsX20 ++ wsX50 ++ wsX30 ++ wsX40 ++ wsX10 ++ ([] : List Cond)
theorem inlX0 : ∀ w ∈ wsX00, w ∈ wsL_law := fun _ h => List.mem_append_left _ (List.mem_append_left _ (List.mem_append_left _ (List.mem_append_left _ (List.mem_append_left _ (List.mem_append_left _ (List.mem_append_right _ h))))))
theorem inlX1 : ∀ w ∈ wsX10, w ∈ wsL_law := fun _ h => List.mem_append_left _ (List.mem_append_right _ h)
theorem inlX2 : ∀ w ∈ wsX20, w ∈ wsL_law := fun _ h => List.mem_append_left _ (List.mem_append_left _ (List.mem_append_left _ (List.mem_append_left _ (List.mem_append_left _ (List.mem_append_right _ h)))))
theorem inlX3 : ∀ w ∈ wsX30, w ∈ wsL_law := fun _ h => List.mem_append_left _ (List.mem_append_left _ (List.mem_append_left _ (List.mem_append_right _ h)))
theorem inlX4 : ∀ w ∈ wsX40, w ∈ wsL_law := fun _ h => List.mem_append_left _ (List.mem_append_left _ (List.mem_append_right _ h))
theorem inlX5 : ∀ w ∈ wsX50, w ∈ wsL_law := fun _ h => List.mem_append_left _ (List.mem_append_left _ (List.mem_append_left _ (List.mem_append_left _ (List.mem_append_right _ h))))
theorem inlX6 : ∀ w ∈ wsX60, w ∈ wsL_law := fun _ h => List.mem_append_left _ (List.mem_append_left _ (List.mem_append_left _ (List.mem_append_left _ (List.mem_append_left _ (List.mem_append_left _ (List.mem_append_left _ (List.mem_append_right _ h)))))))
theorem inlX7 : ∀ w ∈ wsX70, w ∈ wsL_law := fun _ h => List.mem_append_left _ (List.mem_append_left _ (List.mem_append_left _ (List.mem_append_left _ (List.mem_append_left _ (List.mem_append_left _ (List.mem_append_left _ (List.mem_append_left _ (List.mem_append_left _ (List.mem_append_right _ h)))))))))
theorem inlX8 : ∀ w ∈ wsX80, w ∈ wsL_law := fun _ h => List.mem_append_left _ (List.mem_append_left _ (List.mem_append_left _ (List.mem_append_left _ (List.mem_append_left _ (List.mem_append_left _ (List.mem_append_left _ (List.mem_append_left _ (List.mem_append_right _ h))))))))
abbrev AW : List Cond := wsL_law
theorem in_rs : ∀ w ∈ ((wsL_law_r1 ++ (wsL_law_r2 ++ (wsL_law_r3 ++ (wsL_law_r4 ++ (wsL_law_r5 ++ (wsL_law_r6 ++ (wsL_law_r7 ++ (wsL_law_r8 ++ (wsL_law_r9 ++ (wsL_law_r10 ++ (wsL_law_r11 ++ (wsL_law_r12 ++ (wsL_law_r13 ++ (wsL_law_r14 ++ (wsL_law_r15 ++ (wsL_law_r16 ++ (wsL_law_r17 ++ (wsL_law_r18 ++ (wsL_law_r19 ++ (wsL_law_r20 ++ (wsL_law_r21 ++ (wsL_law_r22 ++ (wsL_law_r23 ++ (wsL_law_r24 ++ (wsL_law_r25 ++ (wsL_law_r26 ++ (wsL_law_r27 ++ (wsL_law_r28 ++ (wsL_law_r29 ++ (wsL_law_r30 ++ (wsL_law_r31 ++ (wsL_law_r32 ++ (wsL_law_r33 ++ (wsL_law_r34 ++ (wsL_law_r35 ++ (wsL_law_r36 ++ (wsL_law_r37 ++ (wsL_law_r38 ++ wsL_law_r39))))))))))))))))))))))))))))))))))))))), w ∈ AW := fun w h => List.mem_append_left _ (List.mem_append_left _ (List.mem_append_left _ (List.mem_append_left _ (List.mem_append_left _ (List.mem_append_left _ (List.mem_append_left _ (List.mem_append_left _ (List.mem_append_left _ (List.mem_append_left _ (h))))))))))
theorem in_wsL_law_r1 : ∀ w ∈ wsL_law_r1, w ∈ AW := fun w h => in_rs w (List.mem_append_left _ h)
theorem in_wsL_law_r2 : ∀ w ∈ wsL_law_r2, w ∈ AW := fun w h => in_rs w (List.mem_append_right _ (List.mem_append_left _ h))
theorem in_wsL_law_r3 : ∀ w ∈ wsL_law_r3, w ∈ AW := fun w h => in_rs w (List.mem_append_right _ (List.mem_append_right _ (List.mem_append_left _ h)))
theorem in_wsL_law_r4 : ∀ w ∈ wsL_law_r4, w ∈ AW := fun w h => in_rs w (List.mem_append_right _ (List.mem_append_right _ (List.mem_append_right _ (List.mem_append_left _ h))))
theorem in_wsL_law_r5 : ∀ w ∈ wsL_law_r5, w ∈ AW := fun w h => in_rs w (List.mem_append_right _ (List.mem_append_right _ (List.mem_append_right _ (List.mem_append_right _ (List.mem_append_left _ h)))))
theorem in_wsL_law_r6 : ∀ w ∈ wsL_law_r6, w ∈ AW := fun w h => in_rs w (List.mem_append_right _ (List.mem_append_right _ (List.mem_append_right _ (List.mem_append_right _ (List.mem_append_right _ (List.mem_append_left _ h))))))
theorem in_wsL_law_r7 : ∀ w ∈ wsL_law_r7, w ∈ AW := fun w h => in_rs w (List.mem_append_right _ (List.mem_append_right _ (List.mem_append_right _ (List.mem_append_right _ (List.mem_append_right _ (List.mem_append_right _ (List.mem_append_left _ h)))))))
theorem in_wsL_law_r8 : ∀ w ∈ wsL_law_r8, w ∈ AW := fun w h => in_rs w (List.mem_append_right _ (List.mem_append_right _ (List.mem_append_right _ (List.mem_append_right _ (List.mem_append_right _ (List.mem_append_right _ (List.mem_append_right _ (List.mem_append_left _ h))))))))
theorem in_wsL_law_r9 : ∀ w ∈ wsL_law_r9, w ∈ AW := fun w h => in_rs w (List.mem_append_right _ (List.mem_append_right _ (List.mem_append_right _ (List.mem_append_right _ (List.mem_append_right _ (List.mem_append_right _ (List.mem_append_right _ (List.mem_append_right _ (List.mem_append_left _ h)))))))))
theorem in_wsL_law_r10 : ∀ w ∈ wsL_law_r10, w ∈ AW := fun w h => in_rs w (List.mem_append_right _ (List.mem_append_right _ (List.mem_append_right _ (List.mem_append_right _ (List.mem_append_right _ (List.mem_append_right _ (List.mem_append_right _ (List.mem_append_right _ (List.mem_append_right _ (List.mem_append_left _ h))))))))))
theorem in_wsL_law_r11 : ∀ w ∈ wsL_law_r11, w ∈ AW := fun w h => in_rs w (List.mem_append_right _ (List.mem_append_right _ (List.mem_append_right _ (List.mem_append_right _ (List.mem_append_right _ (List.mem_append_right _ (List.mem_append_right _ (List.mem_append_right _ (List.mem_append_right _ (List.mem_append_right _ (List.mem_append_left _ h)))))))))))
theorem in_wsL_law_r12 : ∀ w ∈ wsL_law_r12, w ∈ AW := fun w h => in_rs w (List.mem_append_right _ (List.mem_append_right _ (List.mem_append_right _ (List.mem_append_right _ (List.mem_append_right _ (List.mem_append_right _ (List.mem_append_right _ (List.mem_append_right _ (List.mem_append_right _ (List.mem_append_right _ (List.mem_append_right _ (List.mem_append_left _ h))))))))))))
theorem in_wsL_law_r13 : ∀ w ∈ wsL_law_r13, w ∈ AW := fun w h => in_rs w (List.mem_append_right _ (List.mem_append_right _ (List.mem_append_right _ (List.mem_append_right _ (List.mem_append_right _ (List.mem_append_right _ (List.mem_append_right _ (List.mem_append_right _ (List.mem_append_right _ (List.mem_append_right _ (List.mem_append_right _ (List.mem_append_right _ (List.mem_append_left _ h)))))))))))))
theorem in_wsL_law_r14 : ∀ w ∈ wsL_law_r14, w ∈ AW := fun w h => in_rs w (List.mem_append_right _ (List.mem_append_right _ (List.mem_append_right _ (List.mem_append_right _ (List.mem_append_right _ (List.mem_append_right _ (List.mem_append_right _ (List.mem_append_right _ (List.mem_append_right _ (List.mem_append_right _ (List.mem_append_right _ (List.mem_append_right _ (List.mem_append_right _ (List.mem_append_left _ h))))))))))))))
theorem in_wsL_law_r15 : ∀ w ∈ wsL_law_r15, w ∈ AW := fun w h => in_rs w (List.mem_append_right _ (List.mem_append_right _ (List.mem_append_right _ (List.mem_append_right _ (List.mem_append_right _ (List.mem_append_right _ (List.mem_append_right _ (List.mem_append_right _ (List.mem_append_right _ (List.mem_append_right _ (List.mem_append_right _ (List.mem_append_right _ (List.mem_append_right _ (List.mem_append_right _ (List.mem_append_left _ h)))))))))))))))
theorem in_wsL_law_r16 : ∀ w ∈ wsL_law_r16, w ∈ AW := fun w h => in_rs w (List.mem_append_right _ (List.mem_append_right _ (List.mem_append_right _ (List.mem_append_right _ (List.mem_append_right _ (List.mem_append_right _ (List.mem_append_right _ (List.mem_append_right _ (List.mem_append_right _ (List.mem_append_right _ (List.mem_append_right _ (List.mem_append_right _ (List.mem_append_right _ (List.mem_append_right _ (List.mem_append_right _ (List.mem_append_left _ h))))))))))))))))
theorem in_wsL_law_r17 : ∀ w ∈ wsL_law_r17, w ∈ AW := fun w h => in_rs w (List.mem_append_right _ (List.mem_append_right _ (List.mem_append_right _ (List.mem_append_right _ (List.mem_append_right _ (List.mem_append_right _ (List.mem_append_right _ (List.mem_append_right _ (List.mem_append_right _ (List.mem_append_right _ (List.mem_append_right _ (List.mem_append_right _ (List.mem_append_right _ (List.mem_append_right _ (List.mem_append_right _ (List.mem_append_right _ (List.mem_append_left _ h)))))))))))))))))
theorem in_wsL_law_r18 : ∀ w ∈ wsL_law_r18, w ∈ AW := fun w h => in_rs w (List.mem_append_right _ (List.mem_append_right _ (List.mem_append_right _ (List.mem_append_right _ (List.mem_append_right _ (List.mem_append_right _ (List.mem_append_right _ (List.mem_append_right _ (List.mem_append_right _ (List.mem_append_right _ (List.mem_append_right _ (List.mem_append_right _ (List.mem_append_right _ (List.mem_append_right _ (List.mem_append_right _ (List.mem_append_right _ (List.mem_append_right _ (List.mem_append_left _ h))))))))))))))))))
theorem in_wsL_law_r19 : ∀ w ∈ wsL_law_r19, w ∈ AW := fun w h => in_rs w (List.mem_append_right _ (List.mem_append_right _ (List.mem_append_right _ (List.mem_append_right _ (List.mem_append_right _ (List.mem_append_right _ (List.mem_append_right _ (List.mem_append_right _ (List.mem_append_right _ (List.mem_append_right _ (List.mem_append_right _ (List.mem_append_right _ (List.mem_append_right _ (List.mem_append_right _ (List.mem_append_right _ (List.mem_append_right _ (List.mem_append_right _ (List.mem_append_right _ (List.mem_append_left _ h)))))))))))))))))))
theorem in_wsL_law_r20 : ∀ w ∈ wsL_law_r20, w ∈ AW := fun w h => in_rs w (List.mem_append_right _ (List.mem_append_right _ (List.mem_append_right _ (List.mem_append_right _ (List.mem_append_right _ (List.mem_append_right _ (List.mem_append_right _ (List.mem_append_right _ (List.mem_append_right _ (List.mem_append_right _ (List.mem_append_right _ (List.mem_append_right _ (List.mem_append_right _ (List.mem_append_right _ (List.mem_append_right _ (List.mem_append_right _ (List.mem_append_right _ (List.mem_append_right _ (List.mem_append_right _ (List.mem_append_left _ h))))))))))))))))))))
theorem in_wsL_law_r21 : ∀ w ∈ wsL_law_r21, w ∈ AW := fun w h => in_rs w (List.mem_append_right _ (List.mem_append_right _ (List.mem_append_right _ (List.mem_append_right _ (List.mem_append_right _ (List.mem_append_right _ (List.mem_append_right _ (List.mem_append_right _ (List.mem_append_right _ (List.mem_append_right _ (List.mem_append_right _ (List.mem_append_right _ (List.mem_append_right _ (List.mem_append_right _ (List.mem_append_right _ (List.mem_append_right _ (List.mem_append_right _ (List.mem_append_right _ (List.mem_append_right _ (List.mem_append_right _ (List.mem_append_left _ h)))))))))))))))))))))
theorem in_wsL_law_r22 : ∀ w ∈ wsL_law_r22, w ∈ AW := fun w h => in_rs w (List.mem_append_right _ (List.mem_append_right _ (List.mem_append_right _ (List.mem_append_right _ (List.mem_append_right _ (List.mem_append_right _ (List.mem_append_right _ (List.mem_append_right _ (List.mem_append_right _ (List.mem_append_right _ (List.mem_append_right _ (List.mem_append_right _ (List.mem_append_right _ (List.mem_append_right _ (List.mem_append_right _ (List.mem_append_right _ (List.mem_append_right _ (List.mem_append_right _ (List.mem_append_right _ (List.mem_append_right _ (List.mem_append_right _ (List.mem_append_left _ h))))))))))))))))))))))
theorem in_wsL_law_r23 : ∀ w ∈ wsL_law_r23, w ∈ AW := fun w h => in_rs w (List.mem_append_right _ (List.mem_append_right _ (List.mem_append_right _ (List.mem_append_right _ (List.mem_append_right _ (List.mem_append_right _ (List.mem_append_right _ (List.mem_append_right _ (List.mem_append_right _ (List.mem_append_right _ (List.mem_append_right _ (List.mem_append_right _ (List.mem_append_right _ (List.mem_append_right _ (List.mem_append_right _ (List.mem_append_right _ (List.mem_append_right _ (List.mem_append_right _ (List.mem_append_right _ (List.mem_append_right _ (List.mem_append_right _ (List.mem_append_right _ (List.mem_append_left _ h)))))))))))))))))))))))
theorem in_wsL_law_r24 : ∀ w ∈ wsL_law_r24, w ∈ AW := fun w h => in_rs w (List.mem_append_right _ (List.mem_append_right _ (List.mem_append_right _ (List.mem_append_right _ (List.mem_append_right _ (List.mem_append_right _ (List.mem_append_right _ (List.mem_append_right _ (List.mem_append_right _ (List.mem_append_right _ (List.mem_append_right _ (List.mem_append_right _ (List.mem_append_right _ (List.mem_append_right _ (List.mem_append_right _ (List.mem_append_right _ (List.mem_append_right _ (List.mem_append_right _ (List.mem_append_right _ (List.mem_append_right _ (List.mem_append_right _ (List.mem_append_right _ (List.mem_append_right _ (List.mem_append_left _ h))))))))))))))))))))))))
theorem in_wsL_law_r25 : ∀ w ∈ wsL_law_r25, w ∈ AW := fun w h => in_rs w (List.mem_append_right _ (List.mem_append_right _ (List.mem_append_right _ (List.mem_append_right _ (List.mem_append_right _ (List.mem_append_right _ (List.mem_append_right _ (List.mem_append_right _ (List.mem_append_right _ (List.mem_append_right _ (List.mem_append_right _ (List.mem_append_right _ (List.mem_append_right _ (List.mem_append_right _ (List.mem_append_right _ (List.mem_append_right _ (List.mem_append_right _ (List.mem_append_right _ (List.mem_append_right _ (List.mem_append_right _ (List.mem_append_right _ (List.mem_append_right _ (List.mem_append_right _ (List.mem_append_right _ (List.mem_append_left _ h)))))))))))))))))))))))))
theorem in_wsL_law_r26 : ∀ w ∈ wsL_law_r26, w ∈ AW := fun w h => in_rs w (List.mem_append_right _ (List.mem_append_right _ (List.mem_append_right _ (List.mem_append_right _ (List.mem_append_right _ (List.mem_append_right _ (List.mem_append_right _ (List.mem_append_right _ (List.mem_append_right _ (List.mem_append_right _ (List.mem_append_right _ (List.mem_append_right _ (List.mem_append_right _ (List.mem_append_right _ (List.mem_append_right _ (List.mem_append_right _ (List.mem_append_right _ (List.mem_append_right _ (List.mem_append_right _ (List.mem_append_right _ (List.mem_append_right _ (List.mem_append_right _ (List.mem_append_right _ (List.mem_append_right _ (List.mem_append_right _ (List.mem_append_left _ h))))))))))))))))))))))))))
theorem in_wsL_law_r27 : ∀ w ∈ wsL_law_r27, w ∈ AW := fun w h => in_rs w (List.mem_append_right _ (List.mem_append_right _ (List.mem_append_right _ (List.mem_append_right _ (List.mem_append_right _ (List.mem_append_right _ (List.mem_append_right _ (List.mem_append_right _ (List.mem_append_right _ (List.mem_append_right _ (List.mem_append_right _ (List.mem_append_right _ (List.mem_append_right _ (List.mem_append_right _ (List.mem_append_right _ (List.mem_append_right _ (List.mem_append_right _ (List.mem_append_right _ (List.mem_append_right _ (List.mem_append_right _ (List.mem_append_right _ (List.mem_append_right _ (List.mem_append_right _ (List.mem_append_right _ (List.mem_append_right _ (List.mem_append_right _ (List.mem_append_left _ h)))))))))))))))))))))))))))
theorem in_wsL_law_r28 : ∀ w ∈ wsL_law_r28, w ∈ AW := fun w h => in_rs w (List.mem_append_right _ (List.mem_append_right _ (List.mem_append_right _ (List.mem_append_right _ (List.mem_append_right _ (List.mem_append_right _ (List.mem_append_right _ (List.mem_append_right _ (List.mem_append_right _ (List.mem_append_right _ (List.mem_append_right _ (List.mem_append_right _ (List.mem_append_right _ (List.mem_append_right _ (List.mem_append_right _ (List.mem_append_right _ (List.mem_append_right _ (List.mem_append_right _ (List.mem_append_right _ (List.mem_append_right _ (List.mem_append_right _ (List.mem_append_right _ (List.mem_append_right _ (List.mem_append_right _ (List.mem_append_right _ (List.mem_append_right _ (List.mem_append_right _ (List.mem_append_left _ h))))))))))))))))))))))))))))
theorem in_wsL_law_r29 : ∀ w ∈ wsL_law_r29, w ∈ AW := fun w h => in_rs w (List.mem_append_right _ (List.mem_append_right _ (List.mem_append_right _ (List.mem_append_right _ (List.mem_append_right _ (List.mem_append_right _ (List.mem_append_right _ (List.mem_append_right _ (List.mem_append_right _ (List.mem_append_right _ (List.mem_append_right _ (List.mem_append_right _ (List.mem_append_right _ (List.mem_append_right _ (List.mem_append_right _ (List.mem_append_right _ (List.mem_append_right _ (List.mem_append_right _ (List.mem_append_right _ (List.mem_append_right _ (List.mem_append_right _ (List.mem_append_right _ (List.mem_append_right _ (List.mem_append_right _ (List.mem_append_right _ (List.mem_append_right _ (List.mem_append_right _ (List.mem_append_right _ (List.mem_append_left _ h)))))))))))))))))))))))))))))
theorem in_wsL_law_r30 : ∀ w ∈ wsL_law_r30, w ∈ AW := fun w h => in_rs w (List.mem_append_right _ (List.mem_append_right _ (List.mem_append_right _ (List.mem_append_right _ (List.mem_append_right _ (List.mem_append_right _ (List.mem_append_right _ (List.mem_append_right _ (List.mem_append_right _ (List.mem_append_right _ (List.mem_append_right _ (List.mem_append_right _ (List.mem_append_right _ (List.mem_append_right _ (List.mem_append_right _ (List.mem_append_right _ (List.mem_append_right _ (List.mem_append_right _ (List.mem_append_right _ (List.mem_append_right _ (List.mem_append_right _ (List.mem_append_right _ (List.mem_append_right _ (List.mem_append_right _ (List.mem_append_right _ (List.mem_append_right _ (List.mem_append_right _ (List.mem_append_right _ (List.mem_append_right _ (List.mem_append_left _ h))))))))))))))))))))))))))))))
theorem in_wsL_law_r31 : ∀ w ∈ wsL_law_r31, w ∈ AW := fun w h => in_rs w (List.mem_append_right _ (List.mem_append_right _ (List.mem_append_right _ (List.mem_append_right _ (List.mem_append_right _ (List.mem_append_right _ (List.mem_append_right _ (List.mem_append_right _ (List.mem_append_right _ (List.mem_append_right _ (List.mem_append_right _ (List.mem_append_right _ (List.mem_append_right _ (List.mem_append_right _ (List.mem_append_right _ (List.mem_append_right _ (List.mem_append_right _ (List.mem_append_right _ (List.mem_append_right _ (List.mem_append_right _ (List.mem_append_right _ (List.mem_append_right _ (List.mem_append_right _ (List.mem_append_right _ (List.mem_append_right _ (List.mem_append_right _ (List.mem_append_right _ (List.mem_append_right _ (List.mem_append_right _ (List.mem_append_right _ (List.mem_append_left _ h)))))))))))))))))))))))))))))))
theorem in_wsL_law_r32 : ∀ w ∈ wsL_law_r32, w ∈ AW := fun w h => in_rs w (List.mem_append_right _ (List.mem_append_right _ (List.mem_append_right _ (List.mem_append_right _ (List.mem_append_right _ (List.mem_append_right _ (List.mem_append_right _ (List.mem_append_right _ (List.mem_append_right _ (List.mem_append_right _ (List.mem_append_right _ (List.mem_append_right _ (List.mem_append_right _ (List.mem_append_right _ (List.mem_append_right _ (List.mem_append_right _ (List.mem_append_right _ (List.mem_append_right _ (List.mem_append_right _ (List.mem_append_right _ (List.mem_append_right _ (List.mem_append_right _ (List.mem_append_right _ (List.mem_append_right _ (List.mem_append_right _ (List.mem_append_right _ (List.mem_append_right _ (List.mem_append_right _ (List.mem_append_right _ (List.mem_append_right _ (List.mem_append_right _ (List.mem_append_left _ h))))))))))))))))))))))))))))))))
theorem in_wsL_law_r33 : ∀ w ∈ wsL_law_r33, w ∈ AW := fun w h => in_rs w (List.mem_append_right _ (List.mem_append_right _ (List.mem_append_right _ (List.mem_append_right _ (List.mem_append_right _ (List.mem_append_right _ (List.mem_append_right _ (List.mem_append_right _ (List.mem_append_right _ (List.mem_append_right _ (List.mem_append_right _ (List.mem_append_right _ (List.mem_append_right _ (List.mem_append_right _ (List.mem_append_right _ (List.mem_append_right _ (List.mem_append_right _ (List.mem_append_right _ (List.mem_append_right _ (List.mem_append_right _ (List.mem_append_right _ (List.mem_append_right _ (List.mem_append_right _ (List.mem_append_right _ (List.mem_append_right _ (List.mem_append_right _ (List.mem_append_right _ (List.mem_append_right _ (List.mem_append_right _ (List.mem_append_right _ (List.mem_append_right _ (List.mem_append_right _ (List.mem_append_left _ h)))))))))))))))))))))))))))))))))
theorem in_wsL_law_r34 : ∀ w ∈ wsL_law_r34, w ∈ AW := fun w h => in_rs w (List.mem_append_right _ (List.mem_append_right _ (List.mem_append_right _ (List.mem_append_right _ (List.mem_append_right _ (List.mem_append_right _ (List.mem_append_right _ (List.mem_append_right _ (List.mem_append_right _ (List.mem_append_right _ (List.mem_append_right _ (List.mem_append_right _ (List.mem_append_right _ (List.mem_append_right _ (List.mem_append_right _ (List.mem_append_right _ (List.mem_append_right _ (List.mem_append_right _ (List.mem_append_right _ (List.mem_append_right _ (List.mem_append_right _ (List.mem_append_right _ (List.mem_append_right _ (List.mem_append_right _ (List.mem_append_right _ (List.mem_append_right _ (List.mem_append_right _ (List.mem_append_right _ (List.mem_append_right _ (List.mem_append_right _ (List.mem_append_right _ (List.mem_append_right _ (List.mem_append_right _ (List.mem_append_left _ h))))))))))))))))))))))))))))))))))
theorem in_wsL_law_r35 : ∀ w ∈ wsL_law_r35, w ∈ AW := fun w h => in_rs w (List.mem_append_right _ (List.mem_append_right _ (List.mem_append_right _ (List.mem_append_right _ (List.mem_append_right _ (List.mem_append_right _ (List.mem_append_right _ (List.mem_append_right _ (List.mem_append_right _ (List.mem_append_right _ (List.mem_append_right _ (List.mem_append_right _ (List.mem_append_right _ (List.mem_append_right _ (List.mem_append_right _ (List.mem_append_right _ (List.mem_append_right _ (List.mem_append_right _ (List.mem_append_right _ (List.mem_append_right _ (List.mem_append_right _ (List.mem_append_right _ (List.mem_append_right _ (List.mem_append_right _ (List.mem_append_right _ (List.mem_append_right _ (List.mem_append_right _ (List.mem_append_right _ (List.mem_append_right _ (List.mem_append_right _ (List.mem_append_right _ (List.mem_append_right _ (List.mem_append_right _ (List.mem_append_right _ (List.mem_append_left _ h)))))))))))))))))))))))))))))))))))
theorem in_wsL_law_r36 : ∀ w ∈ wsL_law_r36, w ∈ AW := fun w h => in_rs w (List.mem_append_right _ (List.mem_append_right _ (List.mem_append_right _ (List.mem_append_right _ (List.mem_append_right _ (List.mem_append_right _ (List.mem_append_right _ (List.mem_append_right _ (List.mem_append_right _ (List.mem_append_right _ (List.mem_append_right _ (List.mem_append_right _ (List.mem_append_right _ (List.mem_append_right _ (List.mem_append_right _ (List.mem_append_right _ (List.mem_append_right _ (List.mem_append_right _ (List.mem_append_right _ (List.mem_append_right _ (List.mem_append_right _ (List.mem_append_right _ (List.mem_append_right _ (List.mem_append_right _ (List.mem_append_right _ (List.mem_append_right _ (List.mem_append_right _ (List.mem_append_right _ (List.mem_append_right _ (List.mem_append_right _ (List.mem_append_right _ (List.mem_append_right _ (List.mem_append_right _ (List.mem_append_right _ (List.mem_append_right _ (List.mem_append_left _ h))))))))))))))))))))))))))))))))))))
theorem in_wsL_law_r37 : ∀ w ∈ wsL_law_r37, w ∈ AW := fun w h => in_rs w (List.mem_append_right _ (List.mem_append_right _ (List.mem_append_right _ (List.mem_append_right _ (List.mem_append_right _ (List.mem_append_right _ (List.mem_append_right _ (List.mem_append_right _ (List.mem_append_right _ (List.mem_append_right _ (List.mem_append_right _ (List.mem_append_right _ (List.mem_append_right _ (List.mem_append_right _ (List.mem_append_right _ (List.mem_append_right _ (List.mem_append_right _ (List.mem_append_right _ (List.mem_append_right _ (List.mem_append_right _ (List.mem_append_right _ (List.mem_append_right _ (List.mem_append_right _ (List.mem_append_right _ (List.mem_append_right _ (List.mem_append_right _ (List.mem_append_right _ (List.mem_append_right _ (List.mem_append_right _ (List.mem_append_right _ (List.mem_append_right _ (List.mem_append_right _ (List.mem_append_right _ (List.mem_append_right _ (List.mem_append_right _ (List.mem_append_right _ (List.mem_append_left _ h)))))))))))))))))))))))))))))))))))))
theorem in_wsL_law_r38 : ∀ w ∈ wsL_law_r38, w ∈ AW := fun w h => in_rs w (List.mem_append_right _ (List.mem_append_right _ (List.mem_append_right _ (List.mem_append_right _ (List.mem_append_right _ (List.mem_append_right _ (List.mem_append_right _ (List.mem_append_right _ (List.mem_append_right _ (List.mem_append_right _ (List.mem_append_right _ (List.mem_append_right _ (List.mem_append_right _ (List.mem_append_right _ (List.mem_append_right _ (List.mem_append_right _ (List.mem_append_right _ (List.mem_append_right _ (List.mem_append_right _ (List.mem_append_right _ (List.mem_append_right _ (List.mem_append_right _ (List.mem_append_right _ (List.mem_append_right _ (List.mem_append_right _ (List.mem_append_right _ (List.mem_append_right _ (List.mem_append_right _ (List.mem_append_right _ (List.mem_append_right _ (List.mem_append_right _ (List.mem_append_right _ (List.mem_append_right _ (List.mem_append_right _ (List.mem_append_right _ (List.mem_append_right _ (List.mem_append_right _ (List.mem_append_left _ h))))))))))))))))))))))))))))))))))))))
theorem in_wsL_law_r39 : ∀ w ∈ wsL_law_r39, w ∈ AW := fun w h => in_rs w (List.mem_append_right _ (List.mem_append_right _ (List.mem_append_right _ (List.mem_append_right _ (List.mem_append_right _ (List.mem_append_right _ (List.mem_append_right _ (List.mem_append_right _ (List.mem_append_right _ (List.mem_append_right _ (List.mem_append_right _ (List.mem_append_right _ (List.mem_append_right _ (List.mem_append_right _ (List.mem_append_right _ (List.mem_append_right _ (List.mem_append_right _ (List.mem_append_right _ (List.mem_append_right _ (List.mem_append_right _ (List.mem_append_right _ (List.mem_append_right _ (List.mem_append_right _ (List.mem_append_right _ (List.mem_append_right _ (List.mem_append_right _ (List.mem_append_right _ (List.mem_append_right _ (List.mem_append_right _ (List.mem_append_right _ (List.mem_append_right _ (List.mem_append_right _ (List.mem_append_right _ (List.mem_append_right _ (List.mem_append_right _ (List.mem_append_right _ (List.mem_append_right _ (List.mem_append_right _ (h)))))))))))))))))))))))))))))))))))))))
theorem aw_0 : Cond.classLink RL 7 RX7 ∈ AW := in_wsL_law_r1 _ (List.mem_of_getElem? (i := 0) rfl)
theorem aw_1 : Cond.instantiable RX7 8 ∈ AW := in_wsL_law_r1 _ (List.mem_of_getElem? (i := 1) rfl)
theorem aw_2 : Cond.initialized RX7 ∈ AW := in_wsL_law_r1 _ (List.mem_of_getElem? (i := 2) rfl)
theorem aw_3 : Cond.classLink RL 10 RX8 ∈ AW := in_wsL_law_r1 _ (List.mem_of_getElem? (i := 3) rfl)
theorem aw_4 : Cond.instantiable RX8 24 ∈ AW := in_wsL_law_r1 _ (List.mem_of_getElem? (i := 4) rfl)
theorem aw_5 : Cond.initialized RX8 ∈ AW := in_wsL_law_r1 _ (List.mem_of_getElem? (i := 5) rfl)
theorem aw_6 : Cond.constantLong RL 45 (4294967295) ∈ AW := in_wsL_law_r1 _ (List.mem_of_getElem? (i := 6) rfl)
theorem aw_7 : Cond.methodLink RL 9 yX7_init ∈ AW := in_wsL_law_r1 _ (List.mem_of_getElem? (i := 7) rfl)
theorem aw_8 : Cond.instanceMethod yX7_init ∈ AW := in_wsL_law_r1 _ (List.mem_of_getElem? (i := 8) rfl)
theorem aw_9 : Cond.code yX7_init cX7_init 2 none ∈ AW := in_wsL_law_r1 _ (List.mem_of_getElem? (i := 9) rfl)
theorem aw_10 : Cond.methodLink RX7 3 objectInit ∈ AW := in_wsL_law_r1 _ (List.mem_of_getElem? (i := 10) rfl)
theorem aw_11 : Cond.instanceMethod objectInit ∈ AW := in_wsL_law_r1 _ (List.mem_of_getElem? (i := 11) rfl)
theorem aw_12 : Cond.code objectInit ⟨#[0xb1]⟩ 1 none ∈ AW := in_wsL_law_r1 _ (List.mem_of_getElem? (i := 12) rfl)
theorem aw_13 : Cond.classLink RX7 9 RX6 ∈ AW := in_wsL_law_r1 _ (List.mem_of_getElem? (i := 13) rfl)
theorem aw_14 : Cond.instantiable RX6 8 ∈ AW := in_wsL_law_r1 _ (List.mem_of_getElem? (i := 14) rfl)
theorem aw_15 : Cond.initialized RX6 ∈ AW := in_wsL_law_r1 _ (List.mem_of_getElem? (i := 15) rfl)
theorem aw_16 : Cond.fieldLink RX7 12 "KnivesGround" "now" "LKnivesGround$Whole;" ∈ AW := in_wsL_law_r1 _ (List.mem_of_getElem? (i := 16) rfl)
theorem aw_17 : Cond.fieldLink RX7 16 "KnivesGround" "kept" "LKnivesGround$Whole;" ∈ AW := in_wsL_law_r1 _ (List.mem_of_getElem? (i := 17) rfl)
theorem aw_18 : Cond.classLink RX7 19 RX0 ∈ AW := in_wsL_law_r1 _ (List.mem_of_getElem? (i := 18) rfl)
theorem aw_19 : Cond.instantiable RX0 9 ∈ AW := in_wsL_law_r1 _ (List.mem_of_getElem? (i := 19) rfl)
theorem aw_20 : Cond.initialized RX0 ∈ AW := in_wsL_law_r1 _ (List.mem_of_getElem? (i := 20) rfl)
theorem aw_21 : Cond.fieldLink RX7 31 "KnivesGround" "thought" "LKnivesGround$Ground;" ∈ AW := in_wsL_law_r1 _ (List.mem_of_getElem? (i := 21) rfl)
theorem aw_22 : Cond.classLink RX7 35 RX2 ∈ AW := in_wsL_law_r1 _ (List.mem_of_getElem? (i := 22) rfl)
theorem aw_23 : Cond.instantiable RX2 5 ∈ AW := in_wsL_law_r1 _ (List.mem_of_getElem? (i := 23) rfl)
theorem aw_24 : Cond.initialized RX2 ∈ AW := in_wsL_law_r2 _ (List.mem_of_getElem? (i := 0) rfl)
theorem aw_25 : Cond.fieldLink RX7 38 "KnivesGround" "reader" "LKnivesGround$Reader;" ∈ AW := in_wsL_law_r2 _ (List.mem_of_getElem? (i := 1) rfl)
theorem aw_26 : Cond.classLink RX7 42 RX5 ∈ AW := in_wsL_law_r2 _ (List.mem_of_getElem? (i := 2) rfl)
theorem aw_27 : Cond.instantiable RX5 5 ∈ AW := in_wsL_law_r2 _ (List.mem_of_getElem? (i := 3) rfl)
theorem aw_28 : Cond.initialized RX5 ∈ AW := in_wsL_law_r2 _ (List.mem_of_getElem? (i := 4) rfl)
theorem aw_29 : Cond.fieldLink RX7 45 "KnivesGround" "voices" "LKnivesGround$Voices;" ∈ AW := in_wsL_law_r2 _ (List.mem_of_getElem? (i := 5) rfl)
theorem aw_30 : Cond.classLink RX7 49 RX3 ∈ AW := in_wsL_law_r2 _ (List.mem_of_getElem? (i := 6) rfl)
theorem aw_31 : Cond.fieldLink RX7 51 "KnivesGround" "sheets" "[LKnivesGround$Sheet;" ∈ AW := in_wsL_law_r2 _ (List.mem_of_getElem? (i := 7) rfl)
theorem aw_32 : Cond.arrayClass .int ∈ AW := in_wsL_law_r2 _ (List.mem_of_getElem? (i := 8) rfl)
theorem aw_33 : Cond.fieldLink RX7 55 "KnivesGround" "refused" "[I" ∈ AW := in_wsL_law_r2 _ (List.mem_of_getElem? (i := 9) rfl)
theorem aw_34 : Cond.instantiable RX3 3 ∈ AW := in_wsL_law_r2 _ (List.mem_of_getElem? (i := 10) rfl)
theorem aw_35 : Cond.initialized RX3 ∈ AW := in_wsL_law_r2 _ (List.mem_of_getElem? (i := 11) rfl)
theorem aw_36 : Cond.instanceMethod yX6_init ∈ AW := in_wsL_law_r2 _ (List.mem_of_getElem? (i := 12) rfl)
theorem aw_37 : Cond.code yX6_init cX6_init 1 none ∈ AW := in_wsL_law_r2 _ (List.mem_of_getElem? (i := 13) rfl)
theorem aw_38 : Cond.methodLink RX6 3 objectInit ∈ AW := in_wsL_law_r2 _ (List.mem_of_getElem? (i := 14) rfl)
theorem aw_39 : Cond.classLink RX6 9 RX4 ∈ AW := in_wsL_law_r2 _ (List.mem_of_getElem? (i := 15) rfl)
theorem aw_40 : Cond.instantiable RX4 6 ∈ AW := in_wsL_law_r2 _ (List.mem_of_getElem? (i := 16) rfl)
theorem aw_41 : Cond.initialized RX4 ∈ AW := in_wsL_law_r2 _ (List.mem_of_getElem? (i := 17) rfl)
theorem aw_42 : Cond.fieldLink RX6 12 "KnivesGround$Whole" "grinds" "LKnivesGround$Text;" ∈ AW := in_wsL_law_r2 _ (List.mem_of_getElem? (i := 18) rfl)
theorem aw_43 : Cond.fieldLink RX6 18 "KnivesGround$Whole" "harms" "LKnivesGround$Text;" ∈ AW := in_wsL_law_r2 _ (List.mem_of_getElem? (i := 19) rfl)
theorem aw_44 : Cond.classLink RX6 21 RX0 ∈ AW := in_wsL_law_r2 _ (List.mem_of_getElem? (i := 20) rfl)
theorem aw_45 : Cond.fieldLink RX6 26 "KnivesGround$Whole" "ground" "LKnivesGround$Ground;" ∈ AW := in_wsL_law_r2 _ (List.mem_of_getElem? (i := 21) rfl)
theorem aw_46 : Cond.fieldLink RX6 30 "KnivesGround$Whole" "tape" "[I" ∈ AW := in_wsL_law_r2 _ (List.mem_of_getElem? (i := 22) rfl)
theorem aw_47 : Cond.fieldLink RX6 34 "KnivesGround$Whole" "waiting" "[I" ∈ AW := in_wsL_law_r2 _ (List.mem_of_getElem? (i := 23) rfl)
theorem aw_48 : Cond.fieldLink RX6 37 "KnivesGround$Whole" "z" "I" ∈ AW := in_wsL_law_r3 _ (List.mem_of_getElem? (i := 0) rfl)
theorem aw_49 : Cond.instanceMethod yX4_init ∈ AW := in_wsL_law_r3 _ (List.mem_of_getElem? (i := 1) rfl)
theorem aw_50 : Cond.code yX4_init cX4_init 1 none ∈ AW := in_wsL_law_r3 _ (List.mem_of_getElem? (i := 2) rfl)
theorem aw_51 : Cond.methodLink RX4 3 objectInit ∈ AW := in_wsL_law_r3 _ (List.mem_of_getElem? (i := 3) rfl)
theorem aw_52 : Cond.fieldLink RX4 9 "KnivesGround$Text" "signs" "[I" ∈ AW := in_wsL_law_r3 _ (List.mem_of_getElem? (i := 4) rfl)
theorem aw_53 : Cond.fieldLink RX4 15 "KnivesGround$Text" "lefts" "[I" ∈ AW := in_wsL_law_r3 _ (List.mem_of_getElem? (i := 5) rfl)
theorem aw_54 : Cond.fieldLink RX4 18 "KnivesGround$Text" "rights" "[I" ∈ AW := in_wsL_law_r3 _ (List.mem_of_getElem? (i := 6) rfl)
theorem aw_55 : Cond.fieldLink RX4 21 "KnivesGround$Text" "values" "[I" ∈ AW := in_wsL_law_r3 _ (List.mem_of_getElem? (i := 7) rfl)
theorem aw_56 : Cond.instanceMethod yX0_init ∈ AW := in_wsL_law_r3 _ (List.mem_of_getElem? (i := 8) rfl)
theorem aw_57 : Cond.code yX0_init cX0_init 4 none ∈ AW := in_wsL_law_r3 _ (List.mem_of_getElem? (i := 9) rfl)
theorem aw_58 : Cond.methodLink RX0 3 objectInit ∈ AW := in_wsL_law_r3 _ (List.mem_of_getElem? (i := 10) rfl)
theorem aw_59 : Cond.classLink RX0 9 RX1 ∈ AW := in_wsL_law_r3 _ (List.mem_of_getElem? (i := 11) rfl)
theorem aw_60 : Cond.fieldLink RX0 11 "KnivesGround$Ground" "ones" "[LKnivesGround$One;" ∈ AW := in_wsL_law_r3 _ (List.mem_of_getElem? (i := 12) rfl)
theorem aw_61 : Cond.fieldLink RX0 17 "KnivesGround$Ground" "step" "I" ∈ AW := in_wsL_law_r3 _ (List.mem_of_getElem? (i := 13) rfl)
theorem aw_62 : Cond.fieldLink RX0 21 "KnivesGround$Ground" "grinds" "LKnivesGround$Text;" ∈ AW := in_wsL_law_r3 _ (List.mem_of_getElem? (i := 14) rfl)
theorem aw_63 : Cond.fieldLink RX0 25 "KnivesGround$Ground" "harms" "LKnivesGround$Text;" ∈ AW := in_wsL_law_r3 _ (List.mem_of_getElem? (i := 15) rfl)
theorem aw_64 : Cond.instantiable RX1 7 ∈ AW := in_wsL_law_r3 _ (List.mem_of_getElem? (i := 16) rfl)
theorem aw_65 : Cond.initialized RX1 ∈ AW := in_wsL_law_r3 _ (List.mem_of_getElem? (i := 17) rfl)
theorem aw_66 : Cond.instanceMethod yX1_init ∈ AW := in_wsL_law_r3 _ (List.mem_of_getElem? (i := 18) rfl)
theorem aw_67 : Cond.code yX1_init cX1_init 1 none ∈ AW := in_wsL_law_r3 _ (List.mem_of_getElem? (i := 19) rfl)
theorem aw_68 : Cond.methodLink RX1 3 objectInit ∈ AW := in_wsL_law_r3 _ (List.mem_of_getElem? (i := 20) rfl)
theorem aw_69 : Cond.instanceMethod yX4_clear ∈ AW := in_wsL_law_r3 _ (List.mem_of_getElem? (i := 21) rfl)
theorem aw_70 : Cond.selects RX4 yX4_clear yX4_clear ∈ AW := in_wsL_law_r3 _ (List.mem_of_getElem? (i := 22) rfl)
theorem aw_71 : Cond.code yX4_clear cX4_clear 2 none ∈ AW := in_wsL_law_r3 _ (List.mem_of_getElem? (i := 23) rfl)
theorem aw_72 : Cond.fieldLink RX4 24 "KnivesGround$Text" "use" "I" ∈ AW := in_wsL_law_r4 _ (List.mem_of_getElem? (i := 0) rfl)
theorem aw_73 : Cond.fieldLink RX4 28 "KnivesGround$Text" "size" "I" ∈ AW := in_wsL_law_r4 _ (List.mem_of_getElem? (i := 1) rfl)
theorem aw_74 : Cond.instanceMethod yX2_init ∈ AW := in_wsL_law_r4 _ (List.mem_of_getElem? (i := 2) rfl)
theorem aw_75 : Cond.code yX2_init cX2_init 1 none ∈ AW := in_wsL_law_r4 _ (List.mem_of_getElem? (i := 3) rfl)
theorem aw_76 : Cond.methodLink RX2 3 objectInit ∈ AW := in_wsL_law_r4 _ (List.mem_of_getElem? (i := 4) rfl)
theorem aw_77 : Cond.classLink RX2 9 RX4 ∈ AW := in_wsL_law_r4 _ (List.mem_of_getElem? (i := 5) rfl)
theorem aw_78 : Cond.fieldLink RX2 12 "KnivesGround$Reader" "text" "LKnivesGround$Text;" ∈ AW := in_wsL_law_r4 _ (List.mem_of_getElem? (i := 6) rfl)
theorem aw_79 : Cond.fieldLink RX2 18 "KnivesGround$Reader" "bytes" "[I" ∈ AW := in_wsL_law_r4 _ (List.mem_of_getElem? (i := 7) rfl)
theorem aw_80 : Cond.instanceMethod yX5_init ∈ AW := in_wsL_law_r4 _ (List.mem_of_getElem? (i := 8) rfl)
theorem aw_81 : Cond.code yX5_init cX5_init 1 none ∈ AW := in_wsL_law_r4 _ (List.mem_of_getElem? (i := 9) rfl)
theorem aw_82 : Cond.methodLink RX5 3 objectInit ∈ AW := in_wsL_law_r4 _ (List.mem_of_getElem? (i := 10) rfl)
theorem aw_83 : Cond.fieldLink RX5 9 "KnivesGround$Voices" "trace" "[I" ∈ AW := in_wsL_law_r4 _ (List.mem_of_getElem? (i := 11) rfl)
theorem aw_84 : Cond.instanceMethod yX3_init ∈ AW := in_wsL_law_r4 _ (List.mem_of_getElem? (i := 12) rfl)
theorem aw_85 : Cond.code yX3_init cX3_init 1 none ∈ AW := in_wsL_law_r4 _ (List.mem_of_getElem? (i := 13) rfl)
theorem aw_86 : Cond.methodLink RX3 3 objectInit ∈ AW := in_wsL_law_r4 _ (List.mem_of_getElem? (i := 14) rfl)
theorem aw_87 : Cond.fieldLink RX3 9 "KnivesGround$Sheet" "numbers" "[I" ∈ AW := in_wsL_law_r4 _ (List.mem_of_getElem? (i := 15) rfl)
theorem aw_88 : Cond.methodLink RL 12 yX8_init ∈ AW := in_wsL_law_r4 _ (List.mem_of_getElem? (i := 16) rfl)
theorem aw_89 : Cond.instanceMethod yX8_init ∈ AW := in_wsL_law_r4 _ (List.mem_of_getElem? (i := 17) rfl)
theorem aw_90 : Cond.code yX8_init cX8_init 1 none ∈ AW := in_wsL_law_r4 _ (List.mem_of_getElem? (i := 18) rfl)
theorem aw_91 : Cond.methodLink RX8 1 objectInit ∈ AW := in_wsL_law_r4 _ (List.mem_of_getElem? (i := 19) rfl)
theorem aw_92 : Cond.fieldLink RX8 7 "KnivesGroundModel" "row" "[I" ∈ AW := in_wsL_law_r4 _ (List.mem_of_getElem? (i := 20) rfl)
theorem aw_93 : Cond.fieldLink RX8 13 "KnivesGroundModel" "kept" "[I" ∈ AW := in_wsL_law_r4 _ (List.mem_of_getElem? (i := 21) rfl)
theorem aw_94 : Cond.fieldLink RX8 16 "KnivesGroundModel" "tried" "[I" ∈ AW := in_wsL_law_r4 _ (List.mem_of_getElem? (i := 22) rfl)
theorem aw_95 : Cond.fieldLink RX8 19 "KnivesGroundModel" "found" "[I" ∈ AW := in_wsL_law_r4 _ (List.mem_of_getElem? (i := 23) rfl)
theorem aw_96 : Cond.fieldLink RX8 22 "KnivesGroundModel" "made" "[I" ∈ AW := in_wsL_law_r5 _ (List.mem_of_getElem? (i := 0) rfl)
theorem aw_97 : Cond.fieldLink RX8 25 "KnivesGroundModel" "pile" "[I" ∈ AW := in_wsL_law_r5 _ (List.mem_of_getElem? (i := 1) rfl)
theorem aw_98 : Cond.fieldLink RX8 28 "KnivesGroundModel" "names" "[I" ∈ AW := in_wsL_law_r5 _ (List.mem_of_getElem? (i := 2) rfl)
theorem aw_99 : Cond.fieldLink RX8 31 "KnivesGroundModel" "bitsOf" "[I" ∈ AW := in_wsL_law_r5 _ (List.mem_of_getElem? (i := 3) rfl)
theorem aw_100 : Cond.fieldLink RX8 34 "KnivesGroundModel" "sizeOf" "[I" ∈ AW := in_wsL_law_r5 _ (List.mem_of_getElem? (i := 4) rfl)
theorem aw_101 : Cond.fieldLink RX8 37 "KnivesGroundModel" "sheets" "[I" ∈ AW := in_wsL_law_r5 _ (List.mem_of_getElem? (i := 5) rfl)
theorem aw_102 : Cond.fieldLink RX8 40 "KnivesGroundModel" "moved" "[I" ∈ AW := in_wsL_law_r5 _ (List.mem_of_getElem? (i := 6) rfl)
theorem aw_103 : Cond.fieldLink RX8 43 "KnivesGroundModel" "traced" "[I" ∈ AW := in_wsL_law_r5 _ (List.mem_of_getElem? (i := 7) rfl)
theorem aw_104 : Cond.methodLink RL 13 yX7_set ∈ AW := in_wsL_law_r5 _ (List.mem_of_getElem? (i := 8) rfl)
theorem aw_105 : Cond.instanceMethod yX7_set ∈ AW := in_wsL_law_r5 _ (List.mem_of_getElem? (i := 9) rfl)
theorem aw_106 : Cond.selects RX7 yX7_set yX7_set ∈ AW := in_wsL_law_r5 _ (List.mem_of_getElem? (i := 10) rfl)
theorem aw_107 : Cond.code yX7_set cX7_set 3 (some .int) ∈ AW := in_wsL_law_r5 _ (List.mem_of_getElem? (i := 11) rfl)
theorem aw_108 : Cond.constant RX7 68 (-1000000001) ∈ AW := in_wsL_law_r5 _ (List.mem_of_getElem? (i := 12) rfl)
theorem aw_109 : Cond.methodLink RX7 60 yX7_isWithin ∈ AW := in_wsL_law_r5 _ (List.mem_of_getElem? (i := 13) rfl)
theorem aw_110 : Cond.static yX7_isWithin ∈ AW := in_wsL_law_r5 _ (List.mem_of_getElem? (i := 14) rfl)
theorem aw_111 : Cond.code yX7_isWithin cX7_isWithin 3 (some .boolean) ∈ AW := in_wsL_law_r5 _ (List.mem_of_getElem? (i := 15) rfl)
theorem aw_112 : Cond.methodLink RX7 64 yX7_mostOfGrinder ∈ AW := in_wsL_law_r5 _ (List.mem_of_getElem? (i := 16) rfl)
theorem aw_113 : Cond.static yX7_mostOfGrinder ∈ AW := in_wsL_law_r5 _ (List.mem_of_getElem? (i := 17) rfl)
theorem aw_114 : Cond.code yX7_mostOfGrinder cX7_mostOfGrinder 1 (some .int) ∈ AW := in_wsL_law_r5 _ (List.mem_of_getElem? (i := 18) rfl)
theorem aw_115 : Cond.constant RX7 314 (99999) ∈ AW := in_wsL_law_r5 _ (List.mem_of_getElem? (i := 19) rfl)
theorem aw_116 : Cond.methodLink RX7 69 yX7_refuse ∈ AW := in_wsL_law_r5 _ (List.mem_of_getElem? (i := 20) rfl)
theorem aw_117 : Cond.instanceMethod yX7_refuse ∈ AW := in_wsL_law_r5 _ (List.mem_of_getElem? (i := 21) rfl)
theorem aw_118 : Cond.selects RX7 yX7_refuse yX7_refuse ∈ AW := in_wsL_law_r5 _ (List.mem_of_getElem? (i := 22) rfl)
theorem aw_119 : Cond.code yX7_refuse cX7_refuse 2 (some .int) ∈ AW := in_wsL_law_r5 _ (List.mem_of_getElem? (i := 23) rfl)
theorem aw_120 : Cond.constant RX7 313 (-1000000000) ∈ AW := in_wsL_law_r6 _ (List.mem_of_getElem? (i := 0) rfl)
theorem aw_121 : Cond.instanceMethod yX0_setGrinder ∈ AW := in_wsL_law_r6 _ (List.mem_of_getElem? (i := 1) rfl)
theorem aw_122 : Cond.selects RX0 yX0_setGrinder yX0_setGrinder ∈ AW := in_wsL_law_r6 _ (List.mem_of_getElem? (i := 2) rfl)
theorem aw_123 : Cond.code yX0_setGrinder cX0_setGrinder 4 (some .int) ∈ AW := in_wsL_law_r6 _ (List.mem_of_getElem? (i := 3) rfl)
theorem aw_124 : Cond.fieldLink RX0 36 "KnivesGround$Ground" "grinder" "I" ∈ AW := in_wsL_law_r6 _ (List.mem_of_getElem? (i := 4) rfl)
theorem aw_125 : Cond.fieldLink RX0 42 "KnivesGround$Ground" "harm" "I" ∈ AW := in_wsL_law_r6 _ (List.mem_of_getElem? (i := 5) rfl)
theorem aw_126 : Cond.fieldLink RX0 45 "KnivesGround$Ground" "pence" "I" ∈ AW := in_wsL_law_r6 _ (List.mem_of_getElem? (i := 6) rfl)
theorem aw_127 : Cond.methodLink RL 17 yX8_set ∈ AW := in_wsL_law_r6 _ (List.mem_of_getElem? (i := 7) rfl)
theorem aw_128 : Cond.instanceMethod yX8_set ∈ AW := in_wsL_law_r6 _ (List.mem_of_getElem? (i := 8) rfl)
theorem aw_129 : Cond.selects RX8 yX8_set yX8_set ∈ AW := in_wsL_law_r6 _ (List.mem_of_getElem? (i := 9) rfl)
theorem aw_130 : Cond.code yX8_set cX8_set 4 (some .int) ∈ AW := in_wsL_law_r6 _ (List.mem_of_getElem? (i := 10) rfl)
theorem aw_131 : Cond.constant RX8 55 (99999) ∈ AW := in_wsL_law_r6 _ (List.mem_of_getElem? (i := 11) rfl)
theorem aw_132 : Cond.constant RX8 60 (-1000000001) ∈ AW := in_wsL_law_r6 _ (List.mem_of_getElem? (i := 12) rfl)
theorem aw_133 : Cond.methodLink RX8 47 yX8_in ∈ AW := in_wsL_law_r6 _ (List.mem_of_getElem? (i := 13) rfl)
theorem aw_134 : Cond.static yX8_in ∈ AW := in_wsL_law_r6 _ (List.mem_of_getElem? (i := 14) rfl)
theorem aw_135 : Cond.code yX8_in cX8_in 3 (some .boolean) ∈ AW := in_wsL_law_r6 _ (List.mem_of_getElem? (i := 15) rfl)
theorem aw_136 : Cond.methodLink RX8 51 yX8_isArea ∈ AW := in_wsL_law_r6 _ (List.mem_of_getElem? (i := 16) rfl)
theorem aw_137 : Cond.static yX8_isArea ∈ AW := in_wsL_law_r6 _ (List.mem_of_getElem? (i := 17) rfl)
theorem aw_138 : Cond.code yX8_isArea cX8_isArea 1 (some .boolean) ∈ AW := in_wsL_law_r6 _ (List.mem_of_getElem? (i := 18) rfl)
theorem aw_139 : Cond.methodLink RX8 56 yX8_becomes ∈ AW := in_wsL_law_r6 _ (List.mem_of_getElem? (i := 19) rfl)
theorem aw_140 : Cond.instanceMethod yX8_becomes ∈ AW := in_wsL_law_r6 _ (List.mem_of_getElem? (i := 20) rfl)
theorem aw_141 : Cond.selects RX8 yX8_becomes yX8_becomes ∈ AW := in_wsL_law_r6 _ (List.mem_of_getElem? (i := 21) rfl)
theorem aw_142 : Cond.code yX8_becomes cX8_becomes 4 (some .int) ∈ AW := in_wsL_law_r6 _ (List.mem_of_getElem? (i := 22) rfl)
theorem aw_143 : Cond.methodLink RX8 61 yX8_errs ∈ AW := in_wsL_law_r6 _ (List.mem_of_getElem? (i := 23) rfl)
theorem aw_144 : Cond.instanceMethod yX8_errs ∈ AW := in_wsL_law_r7 _ (List.mem_of_getElem? (i := 0) rfl)
theorem aw_145 : Cond.selects RX8 yX8_errs yX8_errs ∈ AW := in_wsL_law_r7 _ (List.mem_of_getElem? (i := 1) rfl)
theorem aw_146 : Cond.code yX8_errs cX8_errs 2 (some .int) ∈ AW := in_wsL_law_r7 _ (List.mem_of_getElem? (i := 2) rfl)
theorem aw_147 : Cond.constant RX8 46 (-1000000000) ∈ AW := in_wsL_law_r7 _ (List.mem_of_getElem? (i := 3) rfl)
theorem aw_148 : Cond.methodLink RL 18 yX7_inArea ∈ AW := in_wsL_law_r7 _ (List.mem_of_getElem? (i := 4) rfl)
theorem aw_149 : Cond.instanceMethod yX7_inArea ∈ AW := in_wsL_law_r7 _ (List.mem_of_getElem? (i := 5) rfl)
theorem aw_150 : Cond.selects RX7 yX7_inArea yX7_inArea ∈ AW := in_wsL_law_r7 _ (List.mem_of_getElem? (i := 6) rfl)
theorem aw_151 : Cond.code yX7_inArea cX7_inArea 2 (some .int) ∈ AW := in_wsL_law_r7 _ (List.mem_of_getElem? (i := 7) rfl)
theorem aw_152 : Cond.instanceMethod yX0_setInArea ∈ AW := in_wsL_law_r7 _ (List.mem_of_getElem? (i := 8) rfl)
theorem aw_153 : Cond.selects RX0 yX0_setInArea yX0_setInArea ∈ AW := in_wsL_law_r7 _ (List.mem_of_getElem? (i := 9) rfl)
theorem aw_154 : Cond.code yX0_setInArea cX0_setInArea 4 (some .int) ∈ AW := in_wsL_law_r7 _ (List.mem_of_getElem? (i := 10) rfl)
theorem aw_155 : Cond.fieldLink RX0 29 "KnivesGround$Ground" "many" "I" ∈ AW := in_wsL_law_r7 _ (List.mem_of_getElem? (i := 11) rfl)
theorem aw_156 : Cond.methodLink RL 22 yX8_inArea ∈ AW := in_wsL_law_r7 _ (List.mem_of_getElem? (i := 12) rfl)
theorem aw_157 : Cond.instanceMethod yX8_inArea ∈ AW := in_wsL_law_r7 _ (List.mem_of_getElem? (i := 13) rfl)
theorem aw_158 : Cond.selects RX8 yX8_inArea yX8_inArea ∈ AW := in_wsL_law_r7 _ (List.mem_of_getElem? (i := 14) rfl)
theorem aw_159 : Cond.code yX8_inArea cX8_inArea 4 (some .int) ∈ AW := in_wsL_law_r7 _ (List.mem_of_getElem? (i := 15) rfl)
theorem aw_160 : Cond.methodLink RX8 65 yX8_its ∈ AW := in_wsL_law_r7 _ (List.mem_of_getElem? (i := 16) rfl)
theorem aw_161 : Cond.instanceMethod yX8_its ∈ AW := in_wsL_law_r7 _ (List.mem_of_getElem? (i := 17) rfl)
theorem aw_162 : Cond.selects RX8 yX8_its yX8_its ∈ AW := in_wsL_law_r7 _ (List.mem_of_getElem? (i := 18) rfl)
theorem aw_163 : Cond.code yX8_its cX8_its 3 (some .int) ∈ AW := in_wsL_law_r7 _ (List.mem_of_getElem? (i := 19) rfl)
theorem aw_164 : Cond.methodLink RL 23 yX7_quarrel ∈ AW := in_wsL_law_r7 _ (List.mem_of_getElem? (i := 20) rfl)
theorem aw_165 : Cond.instanceMethod yX7_quarrel ∈ AW := in_wsL_law_r7 _ (List.mem_of_getElem? (i := 21) rfl)
theorem aw_166 : Cond.selects RX7 yX7_quarrel yX7_quarrel ∈ AW := in_wsL_law_r7 _ (List.mem_of_getElem? (i := 22) rfl)
theorem aw_167 : Cond.code yX7_quarrel cX7_quarrel 7 (some .int) ∈ AW := in_wsL_law_r7 _ (List.mem_of_getElem? (i := 23) rfl)
theorem aw_168 : Cond.constant RX7 90 (-1000000004) ∈ AW := in_wsL_law_r8 _ (List.mem_of_getElem? (i := 0) rfl)
theorem aw_169 : Cond.methodLink RX7 82 yX7_isKindAndM ∈ AW := in_wsL_law_r8 _ (List.mem_of_getElem? (i := 1) rfl)
theorem aw_170 : Cond.static yX7_isKindAndM ∈ AW := in_wsL_law_r8 _ (List.mem_of_getElem? (i := 2) rfl)
theorem aw_171 : Cond.code yX7_isKindAndM cX7_isKindAndM 1 (some .boolean) ∈ AW := in_wsL_law_r8 _ (List.mem_of_getElem? (i := 3) rfl)
theorem aw_172 : Cond.instanceMethod yX1_turnInto ∈ AW := in_wsL_law_r8 _ (List.mem_of_getElem? (i := 4) rfl)
theorem aw_173 : Cond.selects RX1 yX1_turnInto yX1_turnInto ∈ AW := in_wsL_law_r8 _ (List.mem_of_getElem? (i := 5) rfl)
theorem aw_174 : Cond.code yX1_turnInto cX1_turnInto 2 none ∈ AW := in_wsL_law_r8 _ (List.mem_of_getElem? (i := 6) rfl)
theorem aw_175 : Cond.fieldLink RX1 9 "KnivesGround$One" "kind" "I" ∈ AW := in_wsL_law_r8 _ (List.mem_of_getElem? (i := 7) rfl)
theorem aw_176 : Cond.fieldLink RX1 15 "KnivesGround$One" "m" "I" ∈ AW := in_wsL_law_r8 _ (List.mem_of_getElem? (i := 8) rfl)
theorem aw_177 : Cond.methodLink RL 27 yX8_quarrel ∈ AW := in_wsL_law_r8 _ (List.mem_of_getElem? (i := 9) rfl)
theorem aw_178 : Cond.instanceMethod yX8_quarrel ∈ AW := in_wsL_law_r8 _ (List.mem_of_getElem? (i := 10) rfl)
theorem aw_179 : Cond.selects RX8 yX8_quarrel yX8_quarrel ∈ AW := in_wsL_law_r8 _ (List.mem_of_getElem? (i := 11) rfl)
theorem aw_180 : Cond.code yX8_quarrel cX8_quarrel 6 (some .int) ∈ AW := in_wsL_law_r8 _ (List.mem_of_getElem? (i := 12) rfl)
theorem aw_181 : Cond.constant RX8 68 (-1000000004) ∈ AW := in_wsL_law_r8 _ (List.mem_of_getElem? (i := 13) rfl)
theorem aw_182 : Cond.methodLink RX8 69 yX8_gets ∈ AW := in_wsL_law_r8 _ (List.mem_of_getElem? (i := 14) rfl)
theorem aw_183 : Cond.instanceMethod yX8_gets ∈ AW := in_wsL_law_r8 _ (List.mem_of_getElem? (i := 15) rfl)
theorem aw_184 : Cond.selects RX8 yX8_gets yX8_gets ∈ AW := in_wsL_law_r8 _ (List.mem_of_getElem? (i := 16) rfl)
theorem aw_185 : Cond.code yX8_gets cX8_gets 4 none ∈ AW := in_wsL_law_r8 _ (List.mem_of_getElem? (i := 17) rfl)
theorem aw_186 : Cond.methodLink RL 28 yX7_ofQuarrel ∈ AW := in_wsL_law_r8 _ (List.mem_of_getElem? (i := 18) rfl)
theorem aw_187 : Cond.instanceMethod yX7_ofQuarrel ∈ AW := in_wsL_law_r8 _ (List.mem_of_getElem? (i := 19) rfl)
theorem aw_188 : Cond.selects RX7 yX7_ofQuarrel yX7_ofQuarrel ∈ AW := in_wsL_law_r8 _ (List.mem_of_getElem? (i := 20) rfl)
theorem aw_189 : Cond.code yX7_ofQuarrel cX7_ofQuarrel 4 (some .int) ∈ AW := in_wsL_law_r8 _ (List.mem_of_getElem? (i := 21) rfl)
theorem aw_190 : Cond.methodLink RX7 117 yX7_isQuarrel ∈ AW := in_wsL_law_r8 _ (List.mem_of_getElem? (i := 22) rfl)
theorem aw_191 : Cond.instanceMethod yX7_isQuarrel ∈ AW := in_wsL_law_r8 _ (List.mem_of_getElem? (i := 23) rfl)
theorem aw_192 : Cond.selects RX7 yX7_isQuarrel yX7_isQuarrel ∈ AW := in_wsL_law_r9 _ (List.mem_of_getElem? (i := 0) rfl)
theorem aw_193 : Cond.code yX7_isQuarrel cX7_isQuarrel 2 (some .boolean) ∈ AW := in_wsL_law_r9 _ (List.mem_of_getElem? (i := 1) rfl)
theorem aw_194 : Cond.instanceMethod yX0_gainsOf ∈ AW := in_wsL_law_r9 _ (List.mem_of_getElem? (i := 2) rfl)
theorem aw_195 : Cond.selects RX0 yX0_gainsOf yX0_gainsOf ∈ AW := in_wsL_law_r9 _ (List.mem_of_getElem? (i := 3) rfl)
theorem aw_196 : Cond.code yX0_gainsOf cX0_gainsOf 2 (some .int) ∈ AW := in_wsL_law_r9 _ (List.mem_of_getElem? (i := 4) rfl)
theorem aw_197 : Cond.fieldLink RX0 39 "KnivesGround$Ground" "day" "I" ∈ AW := in_wsL_law_r9 _ (List.mem_of_getElem? (i := 5) rfl)
theorem aw_198 : Cond.instanceMethod yX4_gives ∈ AW := in_wsL_law_r9 _ (List.mem_of_getElem? (i := 6) rfl)
theorem aw_199 : Cond.selects RX4 yX4_gives yX4_gives ∈ AW := in_wsL_law_r9 _ (List.mem_of_getElem? (i := 7) rfl)
theorem aw_200 : Cond.code yX4_gives cX4_gives 5 (some .int) ∈ AW := in_wsL_law_r9 _ (List.mem_of_getElem? (i := 8) rfl)
theorem aw_201 : Cond.methodLink RX4 41 Lib.Math.min.name ∈ AW := in_wsL_law_r9 _ (List.mem_of_getElem? (i := 9) rfl)
theorem aw_202 : Cond.static Lib.Math.min.name ∈ AW := in_wsL_law_r9 _ (List.mem_of_getElem? (i := 10) rfl)
theorem aw_203 : Cond.initialized "java/lang/Math" ∈ AW := in_wsL_law_r9 _ (List.mem_of_getElem? (i := 11) rfl)
theorem aw_204 : Cond.code Lib.Math.min.name Lib.Math.min.code 2 (some .int) ∈ AW := in_wsL_law_r9 _ (List.mem_of_getElem? (i := 12) rfl)
theorem aw_205 : Cond.methodLink RX4 47 Lib.Math.max.name ∈ AW := in_wsL_law_r9 _ (List.mem_of_getElem? (i := 13) rfl)
theorem aw_206 : Cond.static Lib.Math.max.name ∈ AW := in_wsL_law_r9 _ (List.mem_of_getElem? (i := 14) rfl)
theorem aw_207 : Cond.code Lib.Math.max.name Lib.Math.max.code 2 (some .int) ∈ AW := in_wsL_law_r9 _ (List.mem_of_getElem? (i := 15) rfl)
theorem aw_208 : Cond.methodLink RX4 37 yX4_workedOut ∈ AW := in_wsL_law_r9 _ (List.mem_of_getElem? (i := 16) rfl)
theorem aw_209 : Cond.instanceMethod yX4_workedOut ∈ AW := in_wsL_law_r9 _ (List.mem_of_getElem? (i := 17) rfl)
theorem aw_210 : Cond.selects RX4 yX4_workedOut yX4_workedOut ∈ AW := in_wsL_law_r9 _ (List.mem_of_getElem? (i := 18) rfl)
theorem aw_211 : Cond.code yX4_workedOut cX4_workedOut 6 (some .int) ∈ AW := in_wsL_law_r9 _ (List.mem_of_getElem? (i := 19) rfl)
theorem aw_212 : Cond.methodLink RX4 50 yX4_joined ∈ AW := in_wsL_law_r9 _ (List.mem_of_getElem? (i := 20) rfl)
theorem aw_213 : Cond.static yX4_joined ∈ AW := in_wsL_law_r9 _ (List.mem_of_getElem? (i := 21) rfl)
theorem aw_214 : Cond.code yX4_joined cX4_joined 3 (some .int) ∈ AW := in_wsL_law_r9 _ (List.mem_of_getElem? (i := 22) rfl)
theorem aw_215 : Cond.instanceMethod yX1_gains ∈ AW := in_wsL_law_r9 _ (List.mem_of_getElem? (i := 23) rfl)
theorem aw_216 : Cond.selects RX1 yX1_gains yX1_gains ∈ AW := in_wsL_law_r10 _ (List.mem_of_getElem? (i := 0) rfl)
theorem aw_217 : Cond.code yX1_gains cX1_gains 3 (some .int) ∈ AW := in_wsL_law_r10 _ (List.mem_of_getElem? (i := 1) rfl)
theorem aw_218 : Cond.fieldLink RX1 27 "KnivesGround$One" "age" "I" ∈ AW := in_wsL_law_r10 _ (List.mem_of_getElem? (i := 2) rfl)
theorem aw_219 : Cond.methodLink RX1 38 Lib.Math.max.name ∈ AW := in_wsL_law_r10 _ (List.mem_of_getElem? (i := 3) rfl)
theorem aw_220 : Cond.instanceMethod yX1_needs ∈ AW := in_wsL_law_r10 _ (List.mem_of_getElem? (i := 4) rfl)
theorem aw_221 : Cond.selects RX1 yX1_needs yX1_needs ∈ AW := in_wsL_law_r10 _ (List.mem_of_getElem? (i := 5) rfl)
theorem aw_222 : Cond.code yX1_needs cX1_needs 1 (some .int) ∈ AW := in_wsL_law_r10 _ (List.mem_of_getElem? (i := 6) rfl)
theorem aw_223 : Cond.instanceMethod yX1_dulls ∈ AW := in_wsL_law_r10 _ (List.mem_of_getElem? (i := 7) rfl)
theorem aw_224 : Cond.selects RX1 yX1_dulls yX1_dulls ∈ AW := in_wsL_law_r10 _ (List.mem_of_getElem? (i := 8) rfl)
theorem aw_225 : Cond.code yX1_dulls cX1_dulls 1 (some .int) ∈ AW := in_wsL_law_r10 _ (List.mem_of_getElem? (i := 9) rfl)
theorem aw_226 : Cond.methodLink RL 31 yX8_ofQuarrel ∈ AW := in_wsL_law_r10 _ (List.mem_of_getElem? (i := 10) rfl)
theorem aw_227 : Cond.instanceMethod yX8_ofQuarrel ∈ AW := in_wsL_law_r10 _ (List.mem_of_getElem? (i := 11) rfl)
theorem aw_228 : Cond.selects RX8 yX8_ofQuarrel yX8_ofQuarrel ∈ AW := in_wsL_law_r10 _ (List.mem_of_getElem? (i := 12) rfl)
theorem aw_229 : Cond.code yX8_ofQuarrel cX8_ofQuarrel 3 (some .int) ∈ AW := in_wsL_law_r10 _ (List.mem_of_getElem? (i := 13) rfl)
theorem aw_230 : Cond.methodLink RX8 73 yX8_isQuarrel ∈ AW := in_wsL_law_r10 _ (List.mem_of_getElem? (i := 14) rfl)
theorem aw_231 : Cond.instanceMethod yX8_isQuarrel ∈ AW := in_wsL_law_r10 _ (List.mem_of_getElem? (i := 15) rfl)
theorem aw_232 : Cond.selects RX8 yX8_isQuarrel yX8_isQuarrel ∈ AW := in_wsL_law_r10 _ (List.mem_of_getElem? (i := 16) rfl)
theorem aw_233 : Cond.code yX8_isQuarrel cX8_isQuarrel 2 (some .boolean) ∈ AW := in_wsL_law_r10 _ (List.mem_of_getElem? (i := 17) rfl)
theorem aw_234 : Cond.methodLink RX8 76 yX8_gains ∈ AW := in_wsL_law_r10 _ (List.mem_of_getElem? (i := 18) rfl)
theorem aw_235 : Cond.instanceMethod yX8_gains ∈ AW := in_wsL_law_r10 _ (List.mem_of_getElem? (i := 19) rfl)
theorem aw_236 : Cond.selects RX8 yX8_gains yX8_gains ∈ AW := in_wsL_law_r10 _ (List.mem_of_getElem? (i := 20) rfl)
theorem aw_237 : Cond.code yX8_gains cX8_gains 4 (some .int) ∈ AW := in_wsL_law_r10 _ (List.mem_of_getElem? (i := 21) rfl)
theorem aw_238 : Cond.methodLink RX8 154 yX8_lawOf ∈ AW := in_wsL_law_r10 _ (List.mem_of_getElem? (i := 22) rfl)
theorem aw_239 : Cond.instanceMethod yX8_lawOf ∈ AW := in_wsL_law_r10 _ (List.mem_of_getElem? (i := 23) rfl)
theorem aw_240 : Cond.selects RX8 yX8_lawOf yX8_lawOf ∈ AW := in_wsL_law_r11 _ (List.mem_of_getElem? (i := 0) rfl)
theorem aw_241 : Cond.code yX8_lawOf cX8_lawOf 5 (some .int) ∈ AW := in_wsL_law_r11 _ (List.mem_of_getElem? (i := 1) rfl)
theorem aw_242 : Cond.methodLink RX8 147 yX8_walks ∈ AW := in_wsL_law_r11 _ (List.mem_of_getElem? (i := 2) rfl)
theorem aw_243 : Cond.instanceMethod yX8_walks ∈ AW := in_wsL_law_r11 _ (List.mem_of_getElem? (i := 3) rfl)
theorem aw_244 : Cond.selects RX8 yX8_walks yX8_walks ∈ AW := in_wsL_law_r11 _ (List.mem_of_getElem? (i := 4) rfl)
theorem aw_245 : Cond.code yX8_walks cX8_walks 9 (some .int) ∈ AW := in_wsL_law_r11 _ (List.mem_of_getElem? (i := 5) rfl)
theorem aw_246 : Cond.methodLink RX8 143 yX8_workedOut ∈ AW := in_wsL_law_r11 _ (List.mem_of_getElem? (i := 6) rfl)
theorem aw_247 : Cond.static yX8_workedOut ∈ AW := in_wsL_law_r11 _ (List.mem_of_getElem? (i := 7) rfl)
theorem aw_248 : Cond.code yX8_workedOut cX8_workedOut 3 (some .int) ∈ AW := in_wsL_law_r11 _ (List.mem_of_getElem? (i := 8) rfl)
theorem aw_249 : Cond.methodLink RX8 151 yX8_held ∈ AW := in_wsL_law_r11 _ (List.mem_of_getElem? (i := 9) rfl)
theorem aw_250 : Cond.static yX8_held ∈ AW := in_wsL_law_r11 _ (List.mem_of_getElem? (i := 10) rfl)
theorem aw_251 : Cond.code yX8_held cX8_held 3 (some .int) ∈ AW := in_wsL_law_r11 _ (List.mem_of_getElem? (i := 11) rfl)
theorem aw_252 : Cond.methodLink RX8 79 yX8_needs ∈ AW := in_wsL_law_r11 _ (List.mem_of_getElem? (i := 12) rfl)
theorem aw_253 : Cond.instanceMethod yX8_needs ∈ AW := in_wsL_law_r11 _ (List.mem_of_getElem? (i := 13) rfl)
theorem aw_254 : Cond.selects RX8 yX8_needs yX8_needs ∈ AW := in_wsL_law_r11 _ (List.mem_of_getElem? (i := 14) rfl)
theorem aw_255 : Cond.code yX8_needs cX8_needs 3 (some .int) ∈ AW := in_wsL_law_r11 _ (List.mem_of_getElem? (i := 15) rfl)
theorem aw_256 : Cond.methodLink RX8 82 yX8_dulls ∈ AW := in_wsL_law_r11 _ (List.mem_of_getElem? (i := 16) rfl)
theorem aw_257 : Cond.instanceMethod yX8_dulls ∈ AW := in_wsL_law_r11 _ (List.mem_of_getElem? (i := 17) rfl)
theorem aw_258 : Cond.selects RX8 yX8_dulls yX8_dulls ∈ AW := in_wsL_law_r11 _ (List.mem_of_getElem? (i := 18) rfl)
theorem aw_259 : Cond.code yX8_dulls cX8_dulls 2 (some .int) ∈ AW := in_wsL_law_r11 _ (List.mem_of_getElem? (i := 19) rfl)
theorem aw_260 : Cond.methodLink RL 32 yX7_change ∈ AW := in_wsL_law_r11 _ (List.mem_of_getElem? (i := 20) rfl)
theorem aw_261 : Cond.instanceMethod yX7_change ∈ AW := in_wsL_law_r11 _ (List.mem_of_getElem? (i := 21) rfl)
theorem aw_262 : Cond.selects RX7 yX7_change yX7_change ∈ AW := in_wsL_law_r11 _ (List.mem_of_getElem? (i := 22) rfl)
theorem aw_263 : Cond.code yX7_change cX7_change 4 (some .int) ∈ AW := in_wsL_law_r11 _ (List.mem_of_getElem? (i := 23) rfl)
theorem aw_264 : Cond.methodLink RX7 137 yX7_mostOfQuarrel ∈ AW := in_wsL_law_r12 _ (List.mem_of_getElem? (i := 0) rfl)
theorem aw_265 : Cond.static yX7_mostOfQuarrel ∈ AW := in_wsL_law_r12 _ (List.mem_of_getElem? (i := 1) rfl)
theorem aw_266 : Cond.code yX7_mostOfQuarrel cX7_mostOfQuarrel 1 (some .int) ∈ AW := in_wsL_law_r12 _ (List.mem_of_getElem? (i := 2) rfl)
theorem aw_267 : Cond.instanceMethod yX1_changeTo ∈ AW := in_wsL_law_r12 _ (List.mem_of_getElem? (i := 3) rfl)
theorem aw_268 : Cond.selects RX1 yX1_changeTo yX1_changeTo ∈ AW := in_wsL_law_r12 _ (List.mem_of_getElem? (i := 4) rfl)
theorem aw_269 : Cond.code yX1_changeTo cX1_changeTo 4 (some .int) ∈ AW := in_wsL_law_r12 _ (List.mem_of_getElem? (i := 5) rfl)
theorem aw_270 : Cond.fieldLink RX1 18 "KnivesGround$One" "area" "I" ∈ AW := in_wsL_law_r12 _ (List.mem_of_getElem? (i := 6) rfl)
theorem aw_271 : Cond.fieldLink RX1 21 "KnivesGround$One" "edge" "I" ∈ AW := in_wsL_law_r12 _ (List.mem_of_getElem? (i := 7) rfl)
theorem aw_272 : Cond.fieldLink RX1 30 "KnivesGround$One" "ended" "Z" ∈ AW := in_wsL_law_r12 _ (List.mem_of_getElem? (i := 8) rfl)
theorem aw_273 : Cond.methodLink RL 36 yX8_change ∈ AW := in_wsL_law_r12 _ (List.mem_of_getElem? (i := 9) rfl)
theorem aw_274 : Cond.instanceMethod yX8_change ∈ AW := in_wsL_law_r12 _ (List.mem_of_getElem? (i := 10) rfl)
theorem aw_275 : Cond.selects RX8 yX8_change yX8_change ∈ AW := in_wsL_law_r12 _ (List.mem_of_getElem? (i := 11) rfl)
theorem aw_276 : Cond.code yX8_change cX8_change 5 (some .int) ∈ AW := in_wsL_law_r12 _ (List.mem_of_getElem? (i := 12) rfl)
theorem aw_277 : Cond.methodLink RL 37 yX7_become ∈ AW := in_wsL_law_r12 _ (List.mem_of_getElem? (i := 13) rfl)
theorem aw_278 : Cond.instanceMethod yX7_become ∈ AW := in_wsL_law_r12 _ (List.mem_of_getElem? (i := 14) rfl)
theorem aw_279 : Cond.selects RX7 yX7_become yX7_become ∈ AW := in_wsL_law_r12 _ (List.mem_of_getElem? (i := 15) rfl)
theorem aw_280 : Cond.code yX7_become cX7_become 5 (some .int) ∈ AW := in_wsL_law_r12 _ (List.mem_of_getElem? (i := 16) rfl)
theorem aw_281 : Cond.methodLink RL 40 yX8_become ∈ AW := in_wsL_law_r12 _ (List.mem_of_getElem? (i := 17) rfl)
theorem aw_282 : Cond.instanceMethod yX8_become ∈ AW := in_wsL_law_r12 _ (List.mem_of_getElem? (i := 18) rfl)
theorem aw_283 : Cond.selects RX8 yX8_become yX8_become ∈ AW := in_wsL_law_r12 _ (List.mem_of_getElem? (i := 19) rfl)
theorem aw_284 : Cond.code yX8_become cX8_become 3 (some .int) ∈ AW := in_wsL_law_r12 _ (List.mem_of_getElem? (i := 20) rfl)
theorem aw_285 : Cond.methodLink RL 41 yX7_as ∈ AW := in_wsL_law_r12 _ (List.mem_of_getElem? (i := 21) rfl)
theorem aw_286 : Cond.instanceMethod yX7_as ∈ AW := in_wsL_law_r12 _ (List.mem_of_getElem? (i := 22) rfl)
theorem aw_287 : Cond.selects RX7 yX7_as yX7_as ∈ AW := in_wsL_law_r12 _ (List.mem_of_getElem? (i := 23) rfl)
theorem aw_288 : Cond.code yX7_as cX7_as 4 (some .int) ∈ AW := in_wsL_law_r13 _ (List.mem_of_getElem? (i := 0) rfl)
theorem aw_289 : Cond.constant RX7 146 (-1000000005) ∈ AW := in_wsL_law_r13 _ (List.mem_of_getElem? (i := 1) rfl)
theorem aw_290 : Cond.instanceMethod yX1_isOfKind ∈ AW := in_wsL_law_r13 _ (List.mem_of_getElem? (i := 2) rfl)
theorem aw_291 : Cond.selects RX1 yX1_isOfKind yX1_isOfKind ∈ AW := in_wsL_law_r13 _ (List.mem_of_getElem? (i := 3) rfl)
theorem aw_292 : Cond.code yX1_isOfKind cX1_isOfKind 2 (some .boolean) ∈ AW := in_wsL_law_r13 _ (List.mem_of_getElem? (i := 4) rfl)
theorem aw_293 : Cond.methodLink RL 44 yX8_as ∈ AW := in_wsL_law_r13 _ (List.mem_of_getElem? (i := 5) rfl)
theorem aw_294 : Cond.instanceMethod yX8_as ∈ AW := in_wsL_law_r13 _ (List.mem_of_getElem? (i := 6) rfl)
theorem aw_295 : Cond.selects RX8 yX8_as yX8_as ∈ AW := in_wsL_law_r13 _ (List.mem_of_getElem? (i := 7) rfl)
theorem aw_296 : Cond.code yX8_as cX8_as 4 (some .int) ∈ AW := in_wsL_law_r13 _ (List.mem_of_getElem? (i := 8) rfl)
theorem aw_297 : Cond.constant RX8 88 (-1000000005) ∈ AW := in_wsL_law_r13 _ (List.mem_of_getElem? (i := 9) rfl)
theorem aw_298 : Cond.methodLink RX8 85 yX8_above ∈ AW := in_wsL_law_r13 _ (List.mem_of_getElem? (i := 10) rfl)
theorem aw_299 : Cond.static yX8_above ∈ AW := in_wsL_law_r13 _ (List.mem_of_getElem? (i := 11) rfl)
theorem aw_300 : Cond.code yX8_above cX8_above 1 (some .int) ∈ AW := in_wsL_law_r13 _ (List.mem_of_getElem? (i := 12) rfl)
theorem aw_301 : Cond.methodLink RL 47 yX7_feed ∈ AW := in_wsL_law_r13 _ (List.mem_of_getElem? (i := 13) rfl)
theorem aw_302 : Cond.instanceMethod yX7_feed ∈ AW := in_wsL_law_r13 _ (List.mem_of_getElem? (i := 14) rfl)
theorem aw_303 : Cond.selects RX7 yX7_feed yX7_feed ∈ AW := in_wsL_law_r13 _ (List.mem_of_getElem? (i := 15) rfl)
theorem aw_304 : Cond.code yX7_feed cX7_feed 5 (some .int) ∈ AW := in_wsL_law_r13 _ (List.mem_of_getElem? (i := 16) rfl)
theorem aw_305 : Cond.methodLink RL 51 yX8_feed ∈ AW := in_wsL_law_r13 _ (List.mem_of_getElem? (i := 17) rfl)
theorem aw_306 : Cond.instanceMethod yX8_feed ∈ AW := in_wsL_law_r13 _ (List.mem_of_getElem? (i := 18) rfl)
theorem aw_307 : Cond.selects RX8 yX8_feed yX8_feed ∈ AW := in_wsL_law_r13 _ (List.mem_of_getElem? (i := 19) rfl)
theorem aw_308 : Cond.code yX8_feed cX8_feed 5 (some .int) ∈ AW := in_wsL_law_r13 _ (List.mem_of_getElem? (i := 20) rfl)
theorem aw_309 : Cond.constantLong RX8 157 (255) ∈ AW := in_wsL_law_r13 _ (List.mem_of_getElem? (i := 21) rfl)
theorem aw_310 : Cond.methodLink RL 52 yX7_text ∈ AW := in_wsL_law_r13 _ (List.mem_of_getElem? (i := 22) rfl)
theorem aw_311 : Cond.instanceMethod yX7_text ∈ AW := in_wsL_law_r13 _ (List.mem_of_getElem? (i := 23) rfl)
theorem aw_312 : Cond.selects RX7 yX7_text yX7_text ∈ AW := in_wsL_law_r14 _ (List.mem_of_getElem? (i := 0) rfl)
theorem aw_313 : Cond.code yX7_text cX7_text 3 (some .int) ∈ AW := in_wsL_law_r14 _ (List.mem_of_getElem? (i := 1) rfl)
theorem aw_314 : Cond.instanceMethod yX2_read ∈ AW := in_wsL_law_r14 _ (List.mem_of_getElem? (i := 2) rfl)
theorem aw_315 : Cond.selects RX2 yX2_read yX2_read ∈ AW := in_wsL_law_r14 _ (List.mem_of_getElem? (i := 3) rfl)
theorem aw_316 : Cond.code yX2_read cX2_read 4 (some .int) ∈ AW := in_wsL_law_r14 _ (List.mem_of_getElem? (i := 4) rfl)
theorem aw_317 : Cond.methodLink RX2 22 Lib.Math.min.name ∈ AW := in_wsL_law_r14 _ (List.mem_of_getElem? (i := 5) rfl)
theorem aw_318 : Cond.fieldLink RX2 28 "KnivesGround$Reader" "many" "I" ∈ AW := in_wsL_law_r14 _ (List.mem_of_getElem? (i := 6) rfl)
theorem aw_319 : Cond.methodLink RX2 32 arraycopyName ∈ AW := in_wsL_law_r14 _ (List.mem_of_getElem? (i := 7) rfl)
theorem aw_320 : Cond.native arraycopyName ∈ AW := in_wsL_law_r14 _ (List.mem_of_getElem? (i := 8) rfl)
theorem aw_321 : Cond.static arraycopyName ∈ AW := in_wsL_law_r14 _ (List.mem_of_getElem? (i := 9) rfl)
theorem aw_322 : Cond.initialized "java/lang/System" ∈ AW := in_wsL_law_r14 _ (List.mem_of_getElem? (i := 10) rfl)
theorem aw_323 : Cond.fieldLink RX2 38 "KnivesGround$Reader" "place" "I" ∈ AW := in_wsL_law_r14 _ (List.mem_of_getElem? (i := 11) rfl)
theorem aw_324 : Cond.fieldLink RX2 41 "KnivesGround$Reader" "fault" "I" ∈ AW := in_wsL_law_r14 _ (List.mem_of_getElem? (i := 12) rfl)
theorem aw_325 : Cond.methodLink RX2 48 yX2_readLevel ∈ AW := in_wsL_law_r14 _ (List.mem_of_getElem? (i := 13) rfl)
theorem aw_326 : Cond.instanceMethod yX2_readLevel ∈ AW := in_wsL_law_r14 _ (List.mem_of_getElem? (i := 14) rfl)
theorem aw_327 : Cond.selects RX2 yX2_readLevel yX2_readLevel ∈ AW := in_wsL_law_r14 _ (List.mem_of_getElem? (i := 15) rfl)
theorem aw_328 : Cond.code yX2_readLevel cX2_readLevel 8 (some .int) ∈ AW := in_wsL_law_r14 _ (List.mem_of_getElem? (i := 16) rfl)
theorem aw_329 : Cond.methodLink RX2 51 yX2_readInnermost ∈ AW := in_wsL_law_r14 _ (List.mem_of_getElem? (i := 17) rfl)
theorem aw_330 : Cond.instanceMethod yX2_readInnermost ∈ AW := in_wsL_law_r14 _ (List.mem_of_getElem? (i := 18) rfl)
theorem aw_331 : Cond.selects RX2 yX2_readInnermost yX2_readInnermost ∈ AW := in_wsL_law_r14 _ (List.mem_of_getElem? (i := 19) rfl)
theorem aw_332 : Cond.methodLink RX2 55 yX2_next ∈ AW := in_wsL_law_r14 _ (List.mem_of_getElem? (i := 20) rfl)
theorem aw_333 : Cond.instanceMethod yX2_next ∈ AW := in_wsL_law_r14 _ (List.mem_of_getElem? (i := 21) rfl)
theorem aw_334 : Cond.selects RX2 yX2_next yX2_next ∈ AW := in_wsL_law_r14 _ (List.mem_of_getElem? (i := 22) rfl)
theorem aw_335 : Cond.code yX2_next cX2_next 1 (some .int) ∈ AW := in_wsL_law_r14 _ (List.mem_of_getElem? (i := 23) rfl)
theorem aw_336 : Cond.methodLink RX2 59 yX2_levelOf ∈ AW := in_wsL_law_r15 _ (List.mem_of_getElem? (i := 0) rfl)
theorem aw_337 : Cond.static yX2_levelOf ∈ AW := in_wsL_law_r15 _ (List.mem_of_getElem? (i := 1) rfl)
theorem aw_338 : Cond.code yX2_levelOf cX2_levelOf 1 (some .int) ∈ AW := in_wsL_law_r15 _ (List.mem_of_getElem? (i := 2) rfl)
theorem aw_339 : Cond.instanceMethod yX4_add ∈ AW := in_wsL_law_r15 _ (List.mem_of_getElem? (i := 3) rfl)
theorem aw_340 : Cond.selects RX4 yX4_add yX4_add ∈ AW := in_wsL_law_r15 _ (List.mem_of_getElem? (i := 4) rfl)
theorem aw_341 : Cond.code yX4_add cX4_add 4 (some .int) ∈ AW := in_wsL_law_r15 _ (List.mem_of_getElem? (i := 5) rfl)
theorem aw_342 : Cond.code yX2_readBrackets cX2_readBrackets 3 (some .int) ∈ AW := in_wsL_law_r15 _ (List.mem_of_getElem? (i := 6) rfl)
theorem aw_343 : Cond.methodLink RX2 82 yX2_stop ∈ AW := in_wsL_law_r15 _ (List.mem_of_getElem? (i := 7) rfl)
theorem aw_344 : Cond.instanceMethod yX2_stop ∈ AW := in_wsL_law_r15 _ (List.mem_of_getElem? (i := 8) rfl)
theorem aw_345 : Cond.selects RX2 yX2_stop yX2_stop ∈ AW := in_wsL_law_r15 _ (List.mem_of_getElem? (i := 9) rfl)
theorem aw_346 : Cond.code yX2_stop cX2_stop 1 (some .int) ∈ AW := in_wsL_law_r15 _ (List.mem_of_getElem? (i := 10) rfl)
theorem aw_347 : Cond.code yX2_readInnermost cX2_readInnermost 3 (some .int) ∈ AW := in_wsL_law_r15 _ (List.mem_of_getElem? (i := 11) rfl)
theorem aw_348 : Cond.methodLink RX2 66 yX2_isDigit ∈ AW := in_wsL_law_r15 _ (List.mem_of_getElem? (i := 12) rfl)
theorem aw_349 : Cond.static yX2_isDigit ∈ AW := in_wsL_law_r15 _ (List.mem_of_getElem? (i := 13) rfl)
theorem aw_350 : Cond.code yX2_isDigit cX2_isDigit 1 (some .boolean) ∈ AW := in_wsL_law_r15 _ (List.mem_of_getElem? (i := 14) rfl)
theorem aw_351 : Cond.methodLink RX2 70 yX2_readNumber ∈ AW := in_wsL_law_r15 _ (List.mem_of_getElem? (i := 15) rfl)
theorem aw_352 : Cond.instanceMethod yX2_readNumber ∈ AW := in_wsL_law_r15 _ (List.mem_of_getElem? (i := 16) rfl)
theorem aw_353 : Cond.selects RX2 yX2_readNumber yX2_readNumber ∈ AW := in_wsL_law_r15 _ (List.mem_of_getElem? (i := 17) rfl)
theorem aw_354 : Cond.code yX2_readNumber cX2_readNumber 3 (some .int) ∈ AW := in_wsL_law_r15 _ (List.mem_of_getElem? (i := 18) rfl)
theorem aw_355 : Cond.methodLink RX2 73 yX2_nameOf ∈ AW := in_wsL_law_r15 _ (List.mem_of_getElem? (i := 19) rfl)
theorem aw_356 : Cond.instanceMethod yX2_nameOf ∈ AW := in_wsL_law_r15 _ (List.mem_of_getElem? (i := 20) rfl)
theorem aw_357 : Cond.selects RX2 yX2_nameOf yX2_nameOf ∈ AW := in_wsL_law_r15 _ (List.mem_of_getElem? (i := 21) rfl)
theorem aw_358 : Cond.code yX2_nameOf cX2_nameOf 2 (some .int) ∈ AW := in_wsL_law_r15 _ (List.mem_of_getElem? (i := 22) rfl)
theorem aw_359 : Cond.methodLink RX2 76 yX2_readNot ∈ AW := in_wsL_law_r15 _ (List.mem_of_getElem? (i := 23) rfl)
theorem aw_360 : Cond.instanceMethod yX2_readNot ∈ AW := in_wsL_law_r16 _ (List.mem_of_getElem? (i := 0) rfl)
theorem aw_361 : Cond.selects RX2 yX2_readNot yX2_readNot ∈ AW := in_wsL_law_r16 _ (List.mem_of_getElem? (i := 1) rfl)
theorem aw_362 : Cond.methodLink RX2 79 yX2_readBrackets ∈ AW := in_wsL_law_r16 _ (List.mem_of_getElem? (i := 2) rfl)
theorem aw_363 : Cond.instanceMethod yX2_readBrackets ∈ AW := in_wsL_law_r16 _ (List.mem_of_getElem? (i := 3) rfl)
theorem aw_364 : Cond.selects RX2 yX2_readBrackets yX2_readBrackets ∈ AW := in_wsL_law_r16 _ (List.mem_of_getElem? (i := 4) rfl)
theorem aw_365 : Cond.code yX2_readNot cX2_readNot 3 (some .int) ∈ AW := in_wsL_law_r16 _ (List.mem_of_getElem? (i := 5) rfl)
theorem aw_366 : Cond.instanceMethod yX6_textOf ∈ AW := in_wsL_law_r16 _ (List.mem_of_getElem? (i := 6) rfl)
theorem aw_367 : Cond.selects RX6 yX6_textOf yX6_textOf ∈ AW := in_wsL_law_r16 _ (List.mem_of_getElem? (i := 7) rfl)
theorem aw_368 : Cond.code yX6_textOf cX6_textOf 2 (some (.object "KnivesGround$Text")) ∈ AW := in_wsL_law_r16 _ (List.mem_of_getElem? (i := 8) rfl)
theorem aw_369 : Cond.instanceMethod yX4_copyFrom ∈ AW := in_wsL_law_r16 _ (List.mem_of_getElem? (i := 9) rfl)
theorem aw_370 : Cond.selects RX4 yX4_copyFrom yX4_copyFrom ∈ AW := in_wsL_law_r16 _ (List.mem_of_getElem? (i := 10) rfl)
theorem aw_371 : Cond.code yX4_copyFrom cX4_copyFrom 2 none ∈ AW := in_wsL_law_r16 _ (List.mem_of_getElem? (i := 11) rfl)
theorem aw_372 : Cond.methodLink RX4 31 arraycopyName ∈ AW := in_wsL_law_r16 _ (List.mem_of_getElem? (i := 12) rfl)
theorem aw_373 : Cond.methodLink RL 55 yX8_text ∈ AW := in_wsL_law_r16 _ (List.mem_of_getElem? (i := 13) rfl)
theorem aw_374 : Cond.instanceMethod yX8_text ∈ AW := in_wsL_law_r16 _ (List.mem_of_getElem? (i := 14) rfl)
theorem aw_375 : Cond.selects RX8 yX8_text yX8_text ∈ AW := in_wsL_law_r16 _ (List.mem_of_getElem? (i := 15) rfl)
theorem aw_376 : Cond.code yX8_text cX8_text 3 (some .int) ∈ AW := in_wsL_law_r16 _ (List.mem_of_getElem? (i := 16) rfl)
theorem aw_377 : Cond.fieldLink RX8 113 "KnivesGroundModel" "use" "I" ∈ AW := in_wsL_law_r16 _ (List.mem_of_getElem? (i := 17) rfl)
theorem aw_378 : Cond.fieldLink RX8 100 "KnivesGroundModel" "at" "I" ∈ AW := in_wsL_law_r16 _ (List.mem_of_getElem? (i := 18) rfl)
theorem aw_379 : Cond.fieldLink RX8 89 "KnivesGroundModel" "end" "I" ∈ AW := in_wsL_law_r16 _ (List.mem_of_getElem? (i := 19) rfl)
theorem aw_380 : Cond.fieldLink RX8 122 "KnivesGroundModel" "open" "I" ∈ AW := in_wsL_law_r16 _ (List.mem_of_getElem? (i := 20) rfl)
theorem aw_381 : Cond.fieldLink RX8 97 "KnivesGroundModel" "steps" "I" ∈ AW := in_wsL_law_r16 _ (List.mem_of_getElem? (i := 21) rfl)
theorem aw_382 : Cond.fieldLink RX8 93 "KnivesGroundModel" "good" "Z" ∈ AW := in_wsL_law_r16 _ (List.mem_of_getElem? (i := 22) rfl)
theorem aw_383 : Cond.methodLink RX8 128 yX8_whole ∈ AW := in_wsL_law_r16 _ (List.mem_of_getElem? (i := 23) rfl)
theorem aw_384 : Cond.instanceMethod yX8_whole ∈ AW := in_wsL_law_r17 _ (List.mem_of_getElem? (i := 0) rfl)
theorem aw_385 : Cond.selects RX8 yX8_whole yX8_whole ∈ AW := in_wsL_law_r17 _ (List.mem_of_getElem? (i := 1) rfl)
theorem aw_386 : Cond.code yX8_whole cX8_whole 1 none ∈ AW := in_wsL_law_r17 _ (List.mem_of_getElem? (i := 2) rfl)
theorem aw_387 : Cond.methodLink RX8 140 yX8_both ∈ AW := in_wsL_law_r17 _ (List.mem_of_getElem? (i := 3) rfl)
theorem aw_388 : Cond.instanceMethod yX8_both ∈ AW := in_wsL_law_r17 _ (List.mem_of_getElem? (i := 4) rfl)
theorem aw_389 : Cond.selects RX8 yX8_both yX8_both ∈ AW := in_wsL_law_r17 _ (List.mem_of_getElem? (i := 5) rfl)
theorem aw_390 : Cond.methodLink RX8 103 yX8_byteAt ∈ AW := in_wsL_law_r17 _ (List.mem_of_getElem? (i := 6) rfl)
theorem aw_391 : Cond.instanceMethod yX8_byteAt ∈ AW := in_wsL_law_r17 _ (List.mem_of_getElem? (i := 7) rfl)
theorem aw_392 : Cond.selects RX8 yX8_byteAt yX8_byteAt ∈ AW := in_wsL_law_r17 _ (List.mem_of_getElem? (i := 8) rfl)
theorem aw_393 : Cond.code yX8_byteAt cX8_byteAt 2 (some .int) ∈ AW := in_wsL_law_r17 _ (List.mem_of_getElem? (i := 9) rfl)
theorem aw_394 : Cond.methodLink RX8 109 yX8_adds ∈ AW := in_wsL_law_r17 _ (List.mem_of_getElem? (i := 10) rfl)
theorem aw_395 : Cond.instanceMethod yX8_adds ∈ AW := in_wsL_law_r17 _ (List.mem_of_getElem? (i := 11) rfl)
theorem aw_396 : Cond.selects RX8 yX8_adds yX8_adds ∈ AW := in_wsL_law_r17 _ (List.mem_of_getElem? (i := 12) rfl)
theorem aw_397 : Cond.code yX8_adds cX8_adds 2 none ∈ AW := in_wsL_law_r17 _ (List.mem_of_getElem? (i := 13) rfl)
theorem aw_398 : Cond.code yX8_both cX8_both 1 none ∈ AW := in_wsL_law_r17 _ (List.mem_of_getElem? (i := 14) rfl)
theorem aw_399 : Cond.methodLink RX8 137 yX8_compared ∈ AW := in_wsL_law_r17 _ (List.mem_of_getElem? (i := 15) rfl)
theorem aw_400 : Cond.instanceMethod yX8_compared ∈ AW := in_wsL_law_r17 _ (List.mem_of_getElem? (i := 16) rfl)
theorem aw_401 : Cond.selects RX8 yX8_compared yX8_compared ∈ AW := in_wsL_law_r17 _ (List.mem_of_getElem? (i := 17) rfl)
theorem aw_402 : Cond.code yX8_compared cX8_compared 2 none ∈ AW := in_wsL_law_r17 _ (List.mem_of_getElem? (i := 18) rfl)
theorem aw_403 : Cond.methodLink RX8 134 yX8_sum ∈ AW := in_wsL_law_r17 _ (List.mem_of_getElem? (i := 19) rfl)
theorem aw_404 : Cond.instanceMethod yX8_sum ∈ AW := in_wsL_law_r17 _ (List.mem_of_getElem? (i := 20) rfl)
theorem aw_405 : Cond.selects RX8 yX8_sum yX8_sum ∈ AW := in_wsL_law_r17 _ (List.mem_of_getElem? (i := 21) rfl)
theorem aw_406 : Cond.code yX8_factor cX8_factor 2 none ∈ AW := in_wsL_law_r17 _ (List.mem_of_getElem? (i := 22) rfl)
theorem aw_407 : Cond.methodLink RX8 106 yX8_isDigit ∈ AW := in_wsL_law_r17 _ (List.mem_of_getElem? (i := 23) rfl)
theorem aw_408 : Cond.static yX8_isDigit ∈ AW := in_wsL_law_r18 _ (List.mem_of_getElem? (i := 0) rfl)
theorem aw_409 : Cond.code yX8_isDigit cX8_isDigit 1 (some .boolean) ∈ AW := in_wsL_law_r18 _ (List.mem_of_getElem? (i := 1) rfl)
theorem aw_410 : Cond.methodLink RX8 116 yX8_number ∈ AW := in_wsL_law_r18 _ (List.mem_of_getElem? (i := 2) rfl)
theorem aw_411 : Cond.instanceMethod yX8_number ∈ AW := in_wsL_law_r18 _ (List.mem_of_getElem? (i := 3) rfl)
theorem aw_412 : Cond.selects RX8 yX8_number yX8_number ∈ AW := in_wsL_law_r18 _ (List.mem_of_getElem? (i := 4) rfl)
theorem aw_413 : Cond.code yX8_number cX8_number 3 none ∈ AW := in_wsL_law_r18 _ (List.mem_of_getElem? (i := 5) rfl)
theorem aw_414 : Cond.methodLink RX8 119 yX8_named ∈ AW := in_wsL_law_r18 _ (List.mem_of_getElem? (i := 6) rfl)
theorem aw_415 : Cond.instanceMethod yX8_named ∈ AW := in_wsL_law_r18 _ (List.mem_of_getElem? (i := 7) rfl)
theorem aw_416 : Cond.selects RX8 yX8_named yX8_named ∈ AW := in_wsL_law_r18 _ (List.mem_of_getElem? (i := 8) rfl)
theorem aw_417 : Cond.code yX8_named cX8_named 5 none ∈ AW := in_wsL_law_r18 _ (List.mem_of_getElem? (i := 9) rfl)
theorem aw_418 : Cond.methodLink RX8 125 yX8_factor ∈ AW := in_wsL_law_r18 _ (List.mem_of_getElem? (i := 10) rfl)
theorem aw_419 : Cond.instanceMethod yX8_factor ∈ AW := in_wsL_law_r18 _ (List.mem_of_getElem? (i := 11) rfl)
theorem aw_420 : Cond.selects RX8 yX8_factor yX8_factor ∈ AW := in_wsL_law_r18 _ (List.mem_of_getElem? (i := 12) rfl)
theorem aw_421 : Cond.code yX8_product cX8_product 2 none ∈ AW := in_wsL_law_r18 _ (List.mem_of_getElem? (i := 13) rfl)
theorem aw_422 : Cond.code yX8_sum cX8_sum 2 none ∈ AW := in_wsL_law_r18 _ (List.mem_of_getElem? (i := 14) rfl)
theorem aw_423 : Cond.methodLink RX8 131 yX8_product ∈ AW := in_wsL_law_r18 _ (List.mem_of_getElem? (i := 15) rfl)
theorem aw_424 : Cond.instanceMethod yX8_product ∈ AW := in_wsL_law_r18 _ (List.mem_of_getElem? (i := 16) rfl)
theorem aw_425 : Cond.selects RX8 yX8_product yX8_product ∈ AW := in_wsL_law_r18 _ (List.mem_of_getElem? (i := 17) rfl)
theorem aw_426 : Cond.methodLink RL 56 yX7_law ∈ AW := in_wsL_law_r18 _ (List.mem_of_getElem? (i := 18) rfl)
theorem aw_427 : Cond.instanceMethod yX7_law ∈ AW := in_wsL_law_r18 _ (List.mem_of_getElem? (i := 19) rfl)
theorem aw_428 : Cond.selects RX7 yX7_law yX7_law ∈ AW := in_wsL_law_r18 _ (List.mem_of_getElem? (i := 20) rfl)
theorem aw_429 : Cond.code yX7_law cX7_law 5 (some .int) ∈ AW := in_wsL_law_r18 _ (List.mem_of_getElem? (i := 21) rfl)
theorem aw_430 : Cond.methodLink RL 59 yX8_law ∈ AW := in_wsL_law_r18 _ (List.mem_of_getElem? (i := 22) rfl)
theorem aw_431 : Cond.instanceMethod yX8_law ∈ AW := in_wsL_law_r18 _ (List.mem_of_getElem? (i := 23) rfl)
theorem aw_432 : Cond.selects RX8 yX8_law yX8_law ∈ AW := in_wsL_law_r19 _ (List.mem_of_getElem? (i := 0) rfl)
theorem aw_433 : Cond.code yX8_law cX8_law 5 (some .int) ∈ AW := in_wsL_law_r19 _ (List.mem_of_getElem? (i := 1) rfl)
theorem aw_434 : Cond.methodLink RL 60 yX7_days ∈ AW := in_wsL_law_r19 _ (List.mem_of_getElem? (i := 2) rfl)
theorem aw_435 : Cond.instanceMethod yX7_days ∈ AW := in_wsL_law_r19 _ (List.mem_of_getElem? (i := 3) rfl)
theorem aw_436 : Cond.selects RX7 yX7_days yX7_days ∈ AW := in_wsL_law_r19 _ (List.mem_of_getElem? (i := 4) rfl)
theorem aw_437 : Cond.code yX7_days cX7_days 3 (some .int) ∈ AW := in_wsL_law_r19 _ (List.mem_of_getElem? (i := 5) rfl)
theorem aw_438 : Cond.constant RX7 177 (-1000000003) ∈ AW := in_wsL_law_r19 _ (List.mem_of_getElem? (i := 6) rfl)
theorem aw_439 : Cond.instanceMethod yX0_passDay ∈ AW := in_wsL_law_r19 _ (List.mem_of_getElem? (i := 7) rfl)
theorem aw_440 : Cond.selects RX0 yX0_passDay yX0_passDay ∈ AW := in_wsL_law_r19 _ (List.mem_of_getElem? (i := 8) rfl)
theorem aw_441 : Cond.code yX0_passDay cX0_passDay 2 none ∈ AW := in_wsL_law_r19 _ (List.mem_of_getElem? (i := 9) rfl)
theorem aw_442 : Cond.methodLink RX0 48 yX0_grindArea ∈ AW := in_wsL_law_r19 _ (List.mem_of_getElem? (i := 10) rfl)
theorem aw_443 : Cond.instanceMethod yX0_grindArea ∈ AW := in_wsL_law_r19 _ (List.mem_of_getElem? (i := 11) rfl)
theorem aw_444 : Cond.selects RX0 yX0_grindArea yX0_grindArea ∈ AW := in_wsL_law_r19 _ (List.mem_of_getElem? (i := 12) rfl)
theorem aw_445 : Cond.code yX0_grindArea cX0_grindArea 3 none ∈ AW := in_wsL_law_r19 _ (List.mem_of_getElem? (i := 13) rfl)
theorem aw_446 : Cond.methodLink RX0 72 Lib.Math.min.name ∈ AW := in_wsL_law_r19 _ (List.mem_of_getElem? (i := 14) rfl)
theorem aw_447 : Cond.constant RX0 78 (99999) ∈ AW := in_wsL_law_r19 _ (List.mem_of_getElem? (i := 15) rfl)
theorem aw_448 : Cond.methodLink RX0 68 yX0_gainsOf ∈ AW := in_wsL_law_r19 _ (List.mem_of_getElem? (i := 16) rfl)
theorem aw_449 : Cond.methodLink RX0 51 yX0_restDay ∈ AW := in_wsL_law_r19 _ (List.mem_of_getElem? (i := 17) rfl)
theorem aw_450 : Cond.instanceMethod yX0_restDay ∈ AW := in_wsL_law_r19 _ (List.mem_of_getElem? (i := 18) rfl)
theorem aw_451 : Cond.selects RX0 yX0_restDay yX0_restDay ∈ AW := in_wsL_law_r19 _ (List.mem_of_getElem? (i := 19) rfl)
theorem aw_452 : Cond.code yX0_restDay cX0_restDay 2 none ∈ AW := in_wsL_law_r19 _ (List.mem_of_getElem? (i := 20) rfl)
theorem aw_453 : Cond.methodLink RX0 55 yX0_endOrDull ∈ AW := in_wsL_law_r19 _ (List.mem_of_getElem? (i := 21) rfl)
theorem aw_454 : Cond.instanceMethod yX0_endOrDull ∈ AW := in_wsL_law_r19 _ (List.mem_of_getElem? (i := 22) rfl)
theorem aw_455 : Cond.selects RX0 yX0_endOrDull yX0_endOrDull ∈ AW := in_wsL_law_r19 _ (List.mem_of_getElem? (i := 23) rfl)
theorem aw_456 : Cond.code yX0_endOrDull cX0_endOrDull 4 none ∈ AW := in_wsL_law_r20 _ (List.mem_of_getElem? (i := 0) rfl)
theorem aw_457 : Cond.methodLink RX0 102 Lib.Math.max.name ∈ AW := in_wsL_law_r20 _ (List.mem_of_getElem? (i := 1) rfl)
theorem aw_458 : Cond.methodLink RX0 83 yX0_isFree ∈ AW := in_wsL_law_r20 _ (List.mem_of_getElem? (i := 2) rfl)
theorem aw_459 : Cond.instanceMethod yX0_isFree ∈ AW := in_wsL_law_r20 _ (List.mem_of_getElem? (i := 3) rfl)
theorem aw_460 : Cond.selects RX0 yX0_isFree yX0_isFree ∈ AW := in_wsL_law_r20 _ (List.mem_of_getElem? (i := 4) rfl)
theorem aw_461 : Cond.code yX0_isFree cX0_isFree 2 (some .boolean) ∈ AW := in_wsL_law_r20 _ (List.mem_of_getElem? (i := 5) rfl)
theorem aw_462 : Cond.instanceMethod yX0_endedMany ∈ AW := in_wsL_law_r20 _ (List.mem_of_getElem? (i := 6) rfl)
theorem aw_463 : Cond.selects RX0 yX0_endedMany yX0_endedMany ∈ AW := in_wsL_law_r20 _ (List.mem_of_getElem? (i := 7) rfl)
theorem aw_464 : Cond.code yX0_endedMany cX0_endedMany 1 (some .int) ∈ AW := in_wsL_law_r20 _ (List.mem_of_getElem? (i := 8) rfl)
theorem aw_465 : Cond.methodLink RX0 122 yX0_setEnded ∈ AW := in_wsL_law_r20 _ (List.mem_of_getElem? (i := 9) rfl)
theorem aw_466 : Cond.instanceMethod yX0_setEnded ∈ AW := in_wsL_law_r20 _ (List.mem_of_getElem? (i := 10) rfl)
theorem aw_467 : Cond.selects RX0 yX0_setEnded yX0_setEnded ∈ AW := in_wsL_law_r20 _ (List.mem_of_getElem? (i := 11) rfl)
theorem aw_468 : Cond.code yX0_setEnded cX0_setEnded 3 (some .int) ∈ AW := in_wsL_law_r20 _ (List.mem_of_getElem? (i := 12) rfl)
theorem aw_469 : Cond.methodLink RX0 125 yJ6_bitCount_0f7a4 ∈ AW := in_wsL_law_r20 _ (List.mem_of_getElem? (i := 13) rfl)
theorem aw_470 : Cond.static yJ6_bitCount_0f7a4 ∈ AW := in_wsL_law_r20 _ (List.mem_of_getElem? (i := 14) rfl)
theorem aw_471 : Cond.initialized RJ6 ∈ AW := in_wsL_law_r20 _ (List.mem_of_getElem? (i := 15) rfl)
theorem aw_472 : Cond.code yJ6_bitCount_0f7a4 cJ6_bitCount_0f7a4 1 (some .int) ∈ AW := in_wsL_law_r20 _ (List.mem_of_getElem? (i := 16) rfl)
theorem aw_473 : Cond.constant RJ6 265 (1431655765) ∈ AW := in_wsL_law_r20 _ (List.mem_of_getElem? (i := 17) rfl)
theorem aw_474 : Cond.constant RJ6 266 (858993459) ∈ AW := in_wsL_law_r20 _ (List.mem_of_getElem? (i := 18) rfl)
theorem aw_475 : Cond.constant RJ6 267 (252645135) ∈ AW := in_wsL_law_r20 _ (List.mem_of_getElem? (i := 19) rfl)
theorem aw_476 : Cond.methodLink RL 63 yX8_days ∈ AW := in_wsL_law_r20 _ (List.mem_of_getElem? (i := 20) rfl)
theorem aw_477 : Cond.instanceMethod yX8_days ∈ AW := in_wsL_law_r20 _ (List.mem_of_getElem? (i := 21) rfl)
theorem aw_478 : Cond.selects RX8 yX8_days yX8_days ∈ AW := in_wsL_law_r20 _ (List.mem_of_getElem? (i := 22) rfl)
theorem aw_479 : Cond.code yX8_days cX8_days 2 (some .int) ∈ AW := in_wsL_law_r20 _ (List.mem_of_getElem? (i := 23) rfl)
theorem aw_480 : Cond.constant RX8 186 (-1000000003) ∈ AW := in_wsL_law_r21 _ (List.mem_of_getElem? (i := 0) rfl)
theorem aw_481 : Cond.methodLink RX8 179 yX8_passes ∈ AW := in_wsL_law_r21 _ (List.mem_of_getElem? (i := 1) rfl)
theorem aw_482 : Cond.instanceMethod yX8_passes ∈ AW := in_wsL_law_r21 _ (List.mem_of_getElem? (i := 2) rfl)
theorem aw_483 : Cond.selects RX8 yX8_passes yX8_passes ∈ AW := in_wsL_law_r21 _ (List.mem_of_getElem? (i := 3) rfl)
theorem aw_484 : Cond.code yX8_passes cX8_passes 3 none ∈ AW := in_wsL_law_r21 _ (List.mem_of_getElem? (i := 4) rfl)
theorem aw_485 : Cond.methodLink RX8 171 yX8_oneDay ∈ AW := in_wsL_law_r21 _ (List.mem_of_getElem? (i := 5) rfl)
theorem aw_486 : Cond.instanceMethod yX8_oneDay ∈ AW := in_wsL_law_r21 _ (List.mem_of_getElem? (i := 6) rfl)
theorem aw_487 : Cond.selects RX8 yX8_oneDay yX8_oneDay ∈ AW := in_wsL_law_r21 _ (List.mem_of_getElem? (i := 7) rfl)
theorem aw_488 : Cond.code yX8_oneDay cX8_oneDay 3 none ∈ AW := in_wsL_law_r21 _ (List.mem_of_getElem? (i := 8) rfl)
theorem aw_489 : Cond.methodLink RX8 165 yX8_grindsAll ∈ AW := in_wsL_law_r21 _ (List.mem_of_getElem? (i := 9) rfl)
theorem aw_490 : Cond.instanceMethod yX8_grindsAll ∈ AW := in_wsL_law_r21 _ (List.mem_of_getElem? (i := 10) rfl)
theorem aw_491 : Cond.selects RX8 yX8_grindsAll yX8_grindsAll ∈ AW := in_wsL_law_r21 _ (List.mem_of_getElem? (i := 11) rfl)
theorem aw_492 : Cond.code yX8_grindsAll cX8_grindsAll 2 none ∈ AW := in_wsL_law_r21 _ (List.mem_of_getElem? (i := 12) rfl)
theorem aw_493 : Cond.methodLink RX8 159 yX8_isOver ∈ AW := in_wsL_law_r21 _ (List.mem_of_getElem? (i := 13) rfl)
theorem aw_494 : Cond.instanceMethod yX8_isOver ∈ AW := in_wsL_law_r21 _ (List.mem_of_getElem? (i := 14) rfl)
theorem aw_495 : Cond.selects RX8 yX8_isOver yX8_isOver ∈ AW := in_wsL_law_r21 _ (List.mem_of_getElem? (i := 15) rfl)
theorem aw_496 : Cond.code yX8_isOver cX8_isOver 2 (some .boolean) ∈ AW := in_wsL_law_r21 _ (List.mem_of_getElem? (i := 16) rfl)
theorem aw_497 : Cond.methodLink RX8 168 yX8_goesOn ∈ AW := in_wsL_law_r21 _ (List.mem_of_getElem? (i := 17) rfl)
theorem aw_498 : Cond.instanceMethod yX8_goesOn ∈ AW := in_wsL_law_r21 _ (List.mem_of_getElem? (i := 18) rfl)
theorem aw_499 : Cond.selects RX8 yX8_goesOn yX8_goesOn ∈ AW := in_wsL_law_r21 _ (List.mem_of_getElem? (i := 19) rfl)
theorem aw_500 : Cond.code yX8_goesOn cX8_goesOn 2 none ∈ AW := in_wsL_law_r21 _ (List.mem_of_getElem? (i := 20) rfl)
theorem aw_501 : Cond.methodLink RX8 162 yX8_isLoose ∈ AW := in_wsL_law_r21 _ (List.mem_of_getElem? (i := 21) rfl)
theorem aw_502 : Cond.instanceMethod yX8_isLoose ∈ AW := in_wsL_law_r21 _ (List.mem_of_getElem? (i := 22) rfl)
theorem aw_503 : Cond.selects RX8 yX8_isLoose yX8_isLoose ∈ AW := in_wsL_law_r21 _ (List.mem_of_getElem? (i := 23) rfl)
theorem aw_504 : Cond.code yX8_isLoose cX8_isLoose 2 (some .boolean) ∈ AW := in_wsL_law_r22 _ (List.mem_of_getElem? (i := 0) rfl)
theorem aw_505 : Cond.methodLink RX8 182 yX8_overSet ∈ AW := in_wsL_law_r22 _ (List.mem_of_getElem? (i := 1) rfl)
theorem aw_506 : Cond.instanceMethod yX8_overSet ∈ AW := in_wsL_law_r22 _ (List.mem_of_getElem? (i := 2) rfl)
theorem aw_507 : Cond.selects RX8 yX8_overSet yX8_overSet ∈ AW := in_wsL_law_r22 _ (List.mem_of_getElem? (i := 3) rfl)
theorem aw_508 : Cond.code yX8_overSet cX8_overSet 3 (some .int) ∈ AW := in_wsL_law_r22 _ (List.mem_of_getElem? (i := 4) rfl)
theorem aw_509 : Cond.methodLink RX8 187 yX8_bits ∈ AW := in_wsL_law_r22 _ (List.mem_of_getElem? (i := 5) rfl)
theorem aw_510 : Cond.static yX8_bits ∈ AW := in_wsL_law_r22 _ (List.mem_of_getElem? (i := 6) rfl)
theorem aw_511 : Cond.code yX8_bits cX8_bits 3 (some .int) ∈ AW := in_wsL_law_r22 _ (List.mem_of_getElem? (i := 7) rfl)
theorem aw_512 : Cond.methodLink RL 64 yX7_loose ∈ AW := in_wsL_law_r22 _ (List.mem_of_getElem? (i := 8) rfl)
theorem aw_513 : Cond.instanceMethod yX7_loose ∈ AW := in_wsL_law_r22 _ (List.mem_of_getElem? (i := 9) rfl)
theorem aw_514 : Cond.selects RX7 yX7_loose yX7_loose ∈ AW := in_wsL_law_r22 _ (List.mem_of_getElem? (i := 10) rfl)
theorem aw_515 : Cond.code yX7_loose cX7_loose 3 (some .int) ∈ AW := in_wsL_law_r22 _ (List.mem_of_getElem? (i := 11) rfl)
theorem aw_516 : Cond.instanceMethod yX6_draw ∈ AW := in_wsL_law_r22 _ (List.mem_of_getElem? (i := 12) rfl)
theorem aw_517 : Cond.selects RX6 yX6_draw yX6_draw ∈ AW := in_wsL_law_r22 _ (List.mem_of_getElem? (i := 13) rfl)
theorem aw_518 : Cond.code yX6_draw cX6_draw 1 (some .int) ∈ AW := in_wsL_law_r22 _ (List.mem_of_getElem? (i := 14) rfl)
theorem aw_519 : Cond.constant RX6 45 (1103515245) ∈ AW := in_wsL_law_r22 _ (List.mem_of_getElem? (i := 15) rfl)
theorem aw_520 : Cond.methodLink RL 67 yX8_loose ∈ AW := in_wsL_law_r22 _ (List.mem_of_getElem? (i := 16) rfl)
theorem aw_521 : Cond.instanceMethod yX8_loose ∈ AW := in_wsL_law_r22 _ (List.mem_of_getElem? (i := 17) rfl)
theorem aw_522 : Cond.selects RX8 yX8_loose yX8_loose ∈ AW := in_wsL_law_r22 _ (List.mem_of_getElem? (i := 18) rfl)
theorem aw_523 : Cond.code yX8_loose cX8_loose 3 (some .int) ∈ AW := in_wsL_law_r22 _ (List.mem_of_getElem? (i := 19) rfl)
theorem aw_524 : Cond.methodLink RX8 191 yX8_drawn ∈ AW := in_wsL_law_r22 _ (List.mem_of_getElem? (i := 20) rfl)
theorem aw_525 : Cond.instanceMethod yX8_drawn ∈ AW := in_wsL_law_r22 _ (List.mem_of_getElem? (i := 21) rfl)
theorem aw_526 : Cond.selects RX8 yX8_drawn yX8_drawn ∈ AW := in_wsL_law_r22 _ (List.mem_of_getElem? (i := 22) rfl)
theorem aw_527 : Cond.code yX8_drawn cX8_drawn 2 (some .int) ∈ AW := in_wsL_law_r22 _ (List.mem_of_getElem? (i := 23) rfl)
theorem aw_528 : Cond.constant RX8 190 (1103515245) ∈ AW := in_wsL_law_r23 _ (List.mem_of_getElem? (i := 0) rfl)
theorem aw_529 : Cond.methodLink RL 68 yX7_then ∈ AW := in_wsL_law_r23 _ (List.mem_of_getElem? (i := 1) rfl)
theorem aw_530 : Cond.instanceMethod yX7_then ∈ AW := in_wsL_law_r23 _ (List.mem_of_getElem? (i := 2) rfl)
theorem aw_531 : Cond.selects RX7 yX7_then yX7_then ∈ AW := in_wsL_law_r23 _ (List.mem_of_getElem? (i := 3) rfl)
theorem aw_532 : Cond.code yX7_then cX7_then 5 (some .int) ∈ AW := in_wsL_law_r23 _ (List.mem_of_getElem? (i := 4) rfl)
theorem aw_533 : Cond.methodLink RX7 191 yX7_think ∈ AW := in_wsL_law_r23 _ (List.mem_of_getElem? (i := 5) rfl)
theorem aw_534 : Cond.instanceMethod yX7_think ∈ AW := in_wsL_law_r23 _ (List.mem_of_getElem? (i := 6) rfl)
theorem aw_535 : Cond.selects RX7 yX7_think yX7_think ∈ AW := in_wsL_law_r23 _ (List.mem_of_getElem? (i := 7) rfl)
theorem aw_536 : Cond.code yX7_think cX7_think 1 none ∈ AW := in_wsL_law_r23 _ (List.mem_of_getElem? (i := 8) rfl)
theorem aw_537 : Cond.instanceMethod yX0_copyFrom ∈ AW := in_wsL_law_r23 _ (List.mem_of_getElem? (i := 9) rfl)
theorem aw_538 : Cond.selects RX0 yX0_copyFrom yX0_copyFrom ∈ AW := in_wsL_law_r23 _ (List.mem_of_getElem? (i := 10) rfl)
theorem aw_539 : Cond.code yX0_copyFrom cX0_copyFrom 3 none ∈ AW := in_wsL_law_r23 _ (List.mem_of_getElem? (i := 11) rfl)
theorem aw_540 : Cond.instanceMethod yX1_copyFrom ∈ AW := in_wsL_law_r23 _ (List.mem_of_getElem? (i := 12) rfl)
theorem aw_541 : Cond.selects RX1 yX1_copyFrom yX1_copyFrom ∈ AW := in_wsL_law_r23 _ (List.mem_of_getElem? (i := 13) rfl)
theorem aw_542 : Cond.code yX1_copyFrom cX1_copyFrom 2 none ∈ AW := in_wsL_law_r23 _ (List.mem_of_getElem? (i := 14) rfl)
theorem aw_543 : Cond.fieldLink RX1 24 "KnivesGround$One" "on" "I" ∈ AW := in_wsL_law_r23 _ (List.mem_of_getElem? (i := 15) rfl)
theorem aw_544 : Cond.methodLink RX7 194 yX7_thinkDays ∈ AW := in_wsL_law_r23 _ (List.mem_of_getElem? (i := 16) rfl)
theorem aw_545 : Cond.instanceMethod yX7_thinkDays ∈ AW := in_wsL_law_r23 _ (List.mem_of_getElem? (i := 17) rfl)
theorem aw_546 : Cond.selects RX7 yX7_thinkDays yX7_thinkDays ∈ AW := in_wsL_law_r23 _ (List.mem_of_getElem? (i := 18) rfl)
theorem aw_547 : Cond.code yX7_thinkDays cX7_thinkDays 3 none ∈ AW := in_wsL_law_r23 _ (List.mem_of_getElem? (i := 19) rfl)
theorem aw_548 : Cond.methodLink RL 71 yX8_then ∈ AW := in_wsL_law_r23 _ (List.mem_of_getElem? (i := 20) rfl)
theorem aw_549 : Cond.instanceMethod yX8_then ∈ AW := in_wsL_law_r23 _ (List.mem_of_getElem? (i := 21) rfl)
theorem aw_550 : Cond.selects RX8 yX8_then yX8_then ∈ AW := in_wsL_law_r23 _ (List.mem_of_getElem? (i := 22) rfl)
theorem aw_551 : Cond.code yX8_then cX8_then 5 (some .int) ∈ AW := in_wsL_law_r23 _ (List.mem_of_getElem? (i := 23) rfl)
theorem aw_552 : Cond.methodLink RX8 175 yX8_moveAll ∈ AW := in_wsL_law_r24 _ (List.mem_of_getElem? (i := 0) rfl)
theorem aw_553 : Cond.instanceMethod yX8_moveAll ∈ AW := in_wsL_law_r24 _ (List.mem_of_getElem? (i := 1) rfl)
theorem aw_554 : Cond.selects RX8 yX8_moveAll yX8_moveAll ∈ AW := in_wsL_law_r24 _ (List.mem_of_getElem? (i := 2) rfl)
theorem aw_555 : Cond.code yX8_moveAll cX8_moveAll 4 none ∈ AW := in_wsL_law_r24 _ (List.mem_of_getElem? (i := 3) rfl)
theorem aw_556 : Cond.methodLink RL 72 yX7_when ∈ AW := in_wsL_law_r24 _ (List.mem_of_getElem? (i := 4) rfl)
theorem aw_557 : Cond.instanceMethod yX7_when ∈ AW := in_wsL_law_r24 _ (List.mem_of_getElem? (i := 5) rfl)
theorem aw_558 : Cond.selects RX7 yX7_when yX7_when ∈ AW := in_wsL_law_r24 _ (List.mem_of_getElem? (i := 6) rfl)
theorem aw_559 : Cond.code yX7_when cX7_when 3 (some .int) ∈ AW := in_wsL_law_r24 _ (List.mem_of_getElem? (i := 7) rfl)
theorem aw_560 : Cond.constant RX7 197 (-1000000002) ∈ AW := in_wsL_law_r24 _ (List.mem_of_getElem? (i := 8) rfl)
theorem aw_561 : Cond.methodLink RL 75 yX8_when ∈ AW := in_wsL_law_r24 _ (List.mem_of_getElem? (i := 9) rfl)
theorem aw_562 : Cond.instanceMethod yX8_when ∈ AW := in_wsL_law_r24 _ (List.mem_of_getElem? (i := 10) rfl)
theorem aw_563 : Cond.selects RX8 yX8_when yX8_when ∈ AW := in_wsL_law_r24 _ (List.mem_of_getElem? (i := 11) rfl)
theorem aw_564 : Cond.code yX8_when cX8_when 3 (some .int) ∈ AW := in_wsL_law_r24 _ (List.mem_of_getElem? (i := 12) rfl)
theorem aw_565 : Cond.constant RX8 194 (-1000000002) ∈ AW := in_wsL_law_r24 _ (List.mem_of_getElem? (i := 13) rfl)
theorem aw_566 : Cond.methodLink RL 76 yX7_ended ∈ AW := in_wsL_law_r24 _ (List.mem_of_getElem? (i := 14) rfl)
theorem aw_567 : Cond.instanceMethod yX7_ended ∈ AW := in_wsL_law_r24 _ (List.mem_of_getElem? (i := 15) rfl)
theorem aw_568 : Cond.selects RX7 yX7_ended yX7_ended ∈ AW := in_wsL_law_r24 _ (List.mem_of_getElem? (i := 16) rfl)
theorem aw_569 : Cond.code yX7_ended cX7_ended 2 (some .int) ∈ AW := in_wsL_law_r24 _ (List.mem_of_getElem? (i := 17) rfl)
theorem aw_570 : Cond.methodLink RL 79 yX8_ended ∈ AW := in_wsL_law_r24 _ (List.mem_of_getElem? (i := 18) rfl)
theorem aw_571 : Cond.instanceMethod yX8_ended ∈ AW := in_wsL_law_r24 _ (List.mem_of_getElem? (i := 19) rfl)
theorem aw_572 : Cond.selects RX8 yX8_ended yX8_ended ∈ AW := in_wsL_law_r24 _ (List.mem_of_getElem? (i := 20) rfl)
theorem aw_573 : Cond.code yX8_ended cX8_ended 2 (some .int) ∈ AW := in_wsL_law_r24 _ (List.mem_of_getElem? (i := 21) rfl)
theorem aw_574 : Cond.methodLink RX8 195 yX8_overBehind ∈ AW := in_wsL_law_r24 _ (List.mem_of_getElem? (i := 22) rfl)
theorem aw_575 : Cond.instanceMethod yX8_overBehind ∈ AW := in_wsL_law_r24 _ (List.mem_of_getElem? (i := 23) rfl)
theorem aw_576 : Cond.selects RX8 yX8_overBehind yX8_overBehind ∈ AW := in_wsL_law_r25 _ (List.mem_of_getElem? (i := 0) rfl)
theorem aw_577 : Cond.code yX8_overBehind cX8_overBehind 3 (some .int) ∈ AW := in_wsL_law_r25 _ (List.mem_of_getElem? (i := 1) rfl)
theorem aw_578 : Cond.methodLink RL 80 yX7_start ∈ AW := in_wsL_law_r25 _ (List.mem_of_getElem? (i := 2) rfl)
theorem aw_579 : Cond.instanceMethod yX7_start ∈ AW := in_wsL_law_r25 _ (List.mem_of_getElem? (i := 3) rfl)
theorem aw_580 : Cond.selects RX7 yX7_start yX7_start ∈ AW := in_wsL_law_r25 _ (List.mem_of_getElem? (i := 4) rfl)
theorem aw_581 : Cond.code yX7_start cX7_start 6 (some .int) ∈ AW := in_wsL_law_r25 _ (List.mem_of_getElem? (i := 5) rfl)
theorem aw_582 : Cond.methodLink RL 83 yX8_start ∈ AW := in_wsL_law_r25 _ (List.mem_of_getElem? (i := 6) rfl)
theorem aw_583 : Cond.instanceMethod yX8_start ∈ AW := in_wsL_law_r25 _ (List.mem_of_getElem? (i := 7) rfl)
theorem aw_584 : Cond.selects RX8 yX8_start yX8_start ∈ AW := in_wsL_law_r25 _ (List.mem_of_getElem? (i := 8) rfl)
theorem aw_585 : Cond.code yX8_start cX8_start 3 (some .int) ∈ AW := in_wsL_law_r25 _ (List.mem_of_getElem? (i := 9) rfl)
theorem aw_586 : Cond.methodLink RX8 198 yX8_mostOver ∈ AW := in_wsL_law_r25 _ (List.mem_of_getElem? (i := 10) rfl)
theorem aw_587 : Cond.instanceMethod yX8_mostOver ∈ AW := in_wsL_law_r25 _ (List.mem_of_getElem? (i := 11) rfl)
theorem aw_588 : Cond.selects RX8 yX8_mostOver yX8_mostOver ∈ AW := in_wsL_law_r25 _ (List.mem_of_getElem? (i := 12) rfl)
theorem aw_589 : Cond.code yX8_mostOver cX8_mostOver 9 (some .int) ∈ AW := in_wsL_law_r25 _ (List.mem_of_getElem? (i := 13) rfl)
theorem aw_590 : Cond.methodLink RL 84 yX7_pace ∈ AW := in_wsL_law_r25 _ (List.mem_of_getElem? (i := 14) rfl)
theorem aw_591 : Cond.instanceMethod yX7_pace ∈ AW := in_wsL_law_r25 _ (List.mem_of_getElem? (i := 15) rfl)
theorem aw_592 : Cond.selects RX7 yX7_pace yX7_pace ∈ AW := in_wsL_law_r25 _ (List.mem_of_getElem? (i := 16) rfl)
theorem aw_593 : Cond.code yX7_pace cX7_pace 6 (some .int) ∈ AW := in_wsL_law_r25 _ (List.mem_of_getElem? (i := 17) rfl)
theorem aw_594 : Cond.methodLink RL 87 yX8_pace ∈ AW := in_wsL_law_r25 _ (List.mem_of_getElem? (i := 18) rfl)
theorem aw_595 : Cond.instanceMethod yX8_pace ∈ AW := in_wsL_law_r25 _ (List.mem_of_getElem? (i := 19) rfl)
theorem aw_596 : Cond.selects RX8 yX8_pace yX8_pace ∈ AW := in_wsL_law_r25 _ (List.mem_of_getElem? (i := 20) rfl)
theorem aw_597 : Cond.code yX8_pace cX8_pace 3 (some .int) ∈ AW := in_wsL_law_r25 _ (List.mem_of_getElem? (i := 21) rfl)
theorem aw_598 : Cond.methodLink RL 88 yX7_hand ∈ AW := in_wsL_law_r25 _ (List.mem_of_getElem? (i := 22) rfl)
theorem aw_599 : Cond.instanceMethod yX7_hand ∈ AW := in_wsL_law_r25 _ (List.mem_of_getElem? (i := 23) rfl)
theorem aw_600 : Cond.selects RX7 yX7_hand yX7_hand ∈ AW := in_wsL_law_r26 _ (List.mem_of_getElem? (i := 0) rfl)
theorem aw_601 : Cond.code yX7_hand cX7_hand 7 (some .int) ∈ AW := in_wsL_law_r26 _ (List.mem_of_getElem? (i := 1) rfl)
theorem aw_602 : Cond.instanceMethod yX0_setItHangsOn ∈ AW := in_wsL_law_r26 _ (List.mem_of_getElem? (i := 2) rfl)
theorem aw_603 : Cond.selects RX0 yX0_setItHangsOn yX0_setItHangsOn ∈ AW := in_wsL_law_r26 _ (List.mem_of_getElem? (i := 3) rfl)
theorem aw_604 : Cond.code yX0_setItHangsOn cX0_setItHangsOn 4 (some .int) ∈ AW := in_wsL_law_r26 _ (List.mem_of_getElem? (i := 4) rfl)
theorem aw_605 : Cond.methodLink RX7 207 yJ6_bitCount_0f7a4 ∈ AW := in_wsL_law_r26 _ (List.mem_of_getElem? (i := 5) rfl)
theorem aw_606 : Cond.instanceMethod yX0_sharpen ∈ AW := in_wsL_law_r26 _ (List.mem_of_getElem? (i := 6) rfl)
theorem aw_607 : Cond.selects RX0 yX0_sharpen yX0_sharpen ∈ AW := in_wsL_law_r26 _ (List.mem_of_getElem? (i := 7) rfl)
theorem aw_608 : Cond.code yX0_sharpen cX0_sharpen 3 none ∈ AW := in_wsL_law_r26 _ (List.mem_of_getElem? (i := 8) rfl)
theorem aw_609 : Cond.methodLink RX7 215 yX7_endsInThought ∈ AW := in_wsL_law_r26 _ (List.mem_of_getElem? (i := 9) rfl)
theorem aw_610 : Cond.instanceMethod yX7_endsInThought ∈ AW := in_wsL_law_r26 _ (List.mem_of_getElem? (i := 10) rfl)
theorem aw_611 : Cond.selects RX7 yX7_endsInThought yX7_endsInThought ∈ AW := in_wsL_law_r26 _ (List.mem_of_getElem? (i := 11) rfl)
theorem aw_612 : Cond.code yX7_endsInThought cX7_endsInThought 5 (some .boolean) ∈ AW := in_wsL_law_r26 _ (List.mem_of_getElem? (i := 12) rfl)
theorem aw_613 : Cond.methodLink RL 91 yX8_hand ∈ AW := in_wsL_law_r26 _ (List.mem_of_getElem? (i := 13) rfl)
theorem aw_614 : Cond.instanceMethod yX8_hand ∈ AW := in_wsL_law_r26 _ (List.mem_of_getElem? (i := 14) rfl)
theorem aw_615 : Cond.selects RX8 yX8_hand yX8_hand ∈ AW := in_wsL_law_r26 _ (List.mem_of_getElem? (i := 15) rfl)
theorem aw_616 : Cond.code yX8_hand cX8_hand 6 (some .int) ∈ AW := in_wsL_law_r26 _ (List.mem_of_getElem? (i := 16) rfl)
theorem aw_617 : Cond.methodLink RX8 201 yX8_isOverBy ∈ AW := in_wsL_law_r26 _ (List.mem_of_getElem? (i := 17) rfl)
theorem aw_618 : Cond.instanceMethod yX8_isOverBy ∈ AW := in_wsL_law_r26 _ (List.mem_of_getElem? (i := 18) rfl)
theorem aw_619 : Cond.selects RX8 yX8_isOverBy yX8_isOverBy ∈ AW := in_wsL_law_r26 _ (List.mem_of_getElem? (i := 19) rfl)
theorem aw_620 : Cond.code yX8_isOverBy cX8_isOverBy 5 (some .boolean) ∈ AW := in_wsL_law_r26 _ (List.mem_of_getElem? (i := 20) rfl)
theorem aw_621 : Cond.methodLink RL 92 yX7_first ∈ AW := in_wsL_law_r26 _ (List.mem_of_getElem? (i := 21) rfl)
theorem aw_622 : Cond.instanceMethod yX7_first ∈ AW := in_wsL_law_r26 _ (List.mem_of_getElem? (i := 22) rfl)
theorem aw_623 : Cond.selects RX7 yX7_first yX7_first ∈ AW := in_wsL_law_r26 _ (List.mem_of_getElem? (i := 23) rfl)
theorem aw_624 : Cond.code yX7_first cX7_first 6 (some .int) ∈ AW := in_wsL_law_r27 _ (List.mem_of_getElem? (i := 0) rfl)
theorem aw_625 : Cond.methodLink RX7 219 yX7_thinkDaysWithHarm ∈ AW := in_wsL_law_r27 _ (List.mem_of_getElem? (i := 1) rfl)
theorem aw_626 : Cond.instanceMethod yX7_thinkDaysWithHarm ∈ AW := in_wsL_law_r27 _ (List.mem_of_getElem? (i := 2) rfl)
theorem aw_627 : Cond.selects RX7 yX7_thinkDaysWithHarm yX7_thinkDaysWithHarm ∈ AW := in_wsL_law_r27 _ (List.mem_of_getElem? (i := 3) rfl)
theorem aw_628 : Cond.code yX7_thinkDaysWithHarm cX7_thinkDaysWithHarm 3 none ∈ AW := in_wsL_law_r27 _ (List.mem_of_getElem? (i := 4) rfl)
theorem aw_629 : Cond.methodLink RL 95 yX8_first ∈ AW := in_wsL_law_r27 _ (List.mem_of_getElem? (i := 5) rfl)
theorem aw_630 : Cond.instanceMethod yX8_first ∈ AW := in_wsL_law_r27 _ (List.mem_of_getElem? (i := 6) rfl)
theorem aw_631 : Cond.selects RX8 yX8_first yX8_first ∈ AW := in_wsL_law_r27 _ (List.mem_of_getElem? (i := 7) rfl)
theorem aw_632 : Cond.code yX8_first cX8_first 7 (some .int) ∈ AW := in_wsL_law_r27 _ (List.mem_of_getElem? (i := 8) rfl)
theorem aw_633 : Cond.constant RX8 204 (100000) ∈ AW := in_wsL_law_r27 _ (List.mem_of_getElem? (i := 9) rfl)
theorem aw_634 : Cond.methodLink RL 96 yX7_sparks ∈ AW := in_wsL_law_r27 _ (List.mem_of_getElem? (i := 10) rfl)
theorem aw_635 : Cond.instanceMethod yX7_sparks ∈ AW := in_wsL_law_r27 _ (List.mem_of_getElem? (i := 11) rfl)
theorem aw_636 : Cond.selects RX7 yX7_sparks yX7_sparks ∈ AW := in_wsL_law_r27 _ (List.mem_of_getElem? (i := 12) rfl)
theorem aw_637 : Cond.code yX7_sparks cX7_sparks 6 (some .int) ∈ AW := in_wsL_law_r27 _ (List.mem_of_getElem? (i := 13) rfl)
theorem aw_638 : Cond.methodLink RX7 225 yX7_isSheet ∈ AW := in_wsL_law_r27 _ (List.mem_of_getElem? (i := 14) rfl)
theorem aw_639 : Cond.static yX7_isSheet ∈ AW := in_wsL_law_r27 _ (List.mem_of_getElem? (i := 15) rfl)
theorem aw_640 : Cond.code yX7_isSheet cX7_isSheet 1 (some .boolean) ∈ AW := in_wsL_law_r27 _ (List.mem_of_getElem? (i := 16) rfl)
theorem aw_641 : Cond.instanceMethod yX3_isMissing ∈ AW := in_wsL_law_r27 _ (List.mem_of_getElem? (i := 17) rfl)
theorem aw_642 : Cond.selects RX3 yX3_isMissing yX3_isMissing ∈ AW := in_wsL_law_r27 _ (List.mem_of_getElem? (i := 18) rfl)
theorem aw_643 : Cond.code yX3_isMissing cX3_isMissing 1 (some .boolean) ∈ AW := in_wsL_law_r27 _ (List.mem_of_getElem? (i := 19) rfl)
theorem aw_644 : Cond.fieldLink RX3 15 "KnivesGround$Sheet" "bits" "I" ∈ AW := in_wsL_law_r27 _ (List.mem_of_getElem? (i := 20) rfl)
theorem aw_645 : Cond.instanceMethod yX0_hasEdges ∈ AW := in_wsL_law_r27 _ (List.mem_of_getElem? (i := 21) rfl)
theorem aw_646 : Cond.selects RX0 yX0_hasEdges yX0_hasEdges ∈ AW := in_wsL_law_r27 _ (List.mem_of_getElem? (i := 22) rfl)
theorem aw_647 : Cond.code yX0_hasEdges cX0_hasEdges 3 (some .boolean) ∈ AW := in_wsL_law_r27 _ (List.mem_of_getElem? (i := 23) rfl)
theorem aw_648 : Cond.methodLink RL 99 yX8_sparks ∈ AW := in_wsL_law_r28 _ (List.mem_of_getElem? (i := 0) rfl)
theorem aw_649 : Cond.instanceMethod yX8_sparks ∈ AW := in_wsL_law_r28 _ (List.mem_of_getElem? (i := 1) rfl)
theorem aw_650 : Cond.selects RX8 yX8_sparks yX8_sparks ∈ AW := in_wsL_law_r28 _ (List.mem_of_getElem? (i := 2) rfl)
theorem aw_651 : Cond.code yX8_sparks cX8_sparks 5 (some .int) ∈ AW := in_wsL_law_r28 _ (List.mem_of_getElem? (i := 3) rfl)
theorem aw_652 : Cond.methodLink RX8 205 yX8_isSheet ∈ AW := in_wsL_law_r28 _ (List.mem_of_getElem? (i := 4) rfl)
theorem aw_653 : Cond.static yX8_isSheet ∈ AW := in_wsL_law_r28 _ (List.mem_of_getElem? (i := 5) rfl)
theorem aw_654 : Cond.code yX8_isSheet cX8_isSheet 1 (some .boolean) ∈ AW := in_wsL_law_r28 _ (List.mem_of_getElem? (i := 6) rfl)
theorem aw_655 : Cond.methodLink RX8 208 yX8_areEdgesSo ∈ AW := in_wsL_law_r28 _ (List.mem_of_getElem? (i := 7) rfl)
theorem aw_656 : Cond.instanceMethod yX8_areEdgesSo ∈ AW := in_wsL_law_r28 _ (List.mem_of_getElem? (i := 8) rfl)
theorem aw_657 : Cond.selects RX8 yX8_areEdgesSo yX8_areEdgesSo ∈ AW := in_wsL_law_r28 _ (List.mem_of_getElem? (i := 9) rfl)
theorem aw_658 : Cond.code yX8_areEdgesSo cX8_areEdgesSo 4 (some .boolean) ∈ AW := in_wsL_law_r28 _ (List.mem_of_getElem? (i := 10) rfl)
theorem aw_659 : Cond.methodLink RL 100 yX7_last ∈ AW := in_wsL_law_r28 _ (List.mem_of_getElem? (i := 11) rfl)
theorem aw_660 : Cond.instanceMethod yX7_last ∈ AW := in_wsL_law_r28 _ (List.mem_of_getElem? (i := 12) rfl)
theorem aw_661 : Cond.selects RX7 yX7_last yX7_last ∈ AW := in_wsL_law_r28 _ (List.mem_of_getElem? (i := 13) rfl)
theorem aw_662 : Cond.code yX7_last cX7_last 7 (some .int) ∈ AW := in_wsL_law_r28 _ (List.mem_of_getElem? (i := 14) rfl)
theorem aw_663 : Cond.methodLink RX7 237 yX7_greatestOf ∈ AW := in_wsL_law_r28 _ (List.mem_of_getElem? (i := 15) rfl)
theorem aw_664 : Cond.static yX7_greatestOf ∈ AW := in_wsL_law_r28 _ (List.mem_of_getElem? (i := 16) rfl)
theorem aw_665 : Cond.code yX7_greatestOf cX7_greatestOf 3 (some .int) ∈ AW := in_wsL_law_r28 _ (List.mem_of_getElem? (i := 17) rfl)
theorem aw_666 : Cond.methodLink RL 103 yX8_last ∈ AW := in_wsL_law_r28 _ (List.mem_of_getElem? (i := 18) rfl)
theorem aw_667 : Cond.instanceMethod yX8_last ∈ AW := in_wsL_law_r28 _ (List.mem_of_getElem? (i := 19) rfl)
theorem aw_668 : Cond.selects RX8 yX8_last yX8_last ∈ AW := in_wsL_law_r28 _ (List.mem_of_getElem? (i := 20) rfl)
theorem aw_669 : Cond.code yX8_last cX8_last 9 (some .int) ∈ AW := in_wsL_law_r28 _ (List.mem_of_getElem? (i := 21) rfl)
theorem aw_670 : Cond.methodLink RL 104 yX7_sharp ∈ AW := in_wsL_law_r28 _ (List.mem_of_getElem? (i := 22) rfl)
theorem aw_671 : Cond.instanceMethod yX7_sharp ∈ AW := in_wsL_law_r28 _ (List.mem_of_getElem? (i := 23) rfl)
theorem aw_672 : Cond.selects RX7 yX7_sharp yX7_sharp ∈ AW := in_wsL_law_r29 _ (List.mem_of_getElem? (i := 0) rfl)
theorem aw_673 : Cond.code yX7_sharp cX7_sharp 4 (some .int) ∈ AW := in_wsL_law_r29 _ (List.mem_of_getElem? (i := 1) rfl)
theorem aw_674 : Cond.methodLink RL 107 yX8_sharp ∈ AW := in_wsL_law_r29 _ (List.mem_of_getElem? (i := 2) rfl)
theorem aw_675 : Cond.instanceMethod yX8_sharp ∈ AW := in_wsL_law_r29 _ (List.mem_of_getElem? (i := 3) rfl)
theorem aw_676 : Cond.selects RX8 yX8_sharp yX8_sharp ∈ AW := in_wsL_law_r29 _ (List.mem_of_getElem? (i := 4) rfl)
theorem aw_677 : Cond.code yX8_sharp cX8_sharp 6 (some .int) ∈ AW := in_wsL_law_r29 _ (List.mem_of_getElem? (i := 5) rfl)
theorem aw_678 : Cond.methodLink RL 108 yX7_off ∈ AW := in_wsL_law_r29 _ (List.mem_of_getElem? (i := 6) rfl)
theorem aw_679 : Cond.instanceMethod yX7_off ∈ AW := in_wsL_law_r29 _ (List.mem_of_getElem? (i := 7) rfl)
theorem aw_680 : Cond.selects RX7 yX7_off yX7_off ∈ AW := in_wsL_law_r29 _ (List.mem_of_getElem? (i := 8) rfl)
theorem aw_681 : Cond.code yX7_off cX7_off 3 (some .int) ∈ AW := in_wsL_law_r29 _ (List.mem_of_getElem? (i := 9) rfl)
theorem aw_682 : Cond.methodLink RL 111 yX8_off ∈ AW := in_wsL_law_r29 _ (List.mem_of_getElem? (i := 10) rfl)
theorem aw_683 : Cond.instanceMethod yX8_off ∈ AW := in_wsL_law_r29 _ (List.mem_of_getElem? (i := 11) rfl)
theorem aw_684 : Cond.selects RX8 yX8_off yX8_off ∈ AW := in_wsL_law_r29 _ (List.mem_of_getElem? (i := 12) rfl)
theorem aw_685 : Cond.code yX8_off cX8_off 3 (some .int) ∈ AW := in_wsL_law_r29 _ (List.mem_of_getElem? (i := 13) rfl)
theorem aw_686 : Cond.methodLink RL 112 yX7_chain ∈ AW := in_wsL_law_r29 _ (List.mem_of_getElem? (i := 14) rfl)
theorem aw_687 : Cond.instanceMethod yX7_chain ∈ AW := in_wsL_law_r29 _ (List.mem_of_getElem? (i := 15) rfl)
theorem aw_688 : Cond.selects RX7 yX7_chain yX7_chain ∈ AW := in_wsL_law_r29 _ (List.mem_of_getElem? (i := 16) rfl)
theorem aw_689 : Cond.code yX7_chain cX7_chain 2 (some .int) ∈ AW := in_wsL_law_r29 _ (List.mem_of_getElem? (i := 17) rfl)
theorem aw_690 : Cond.instanceMethod yX0_setHangingOn ∈ AW := in_wsL_law_r29 _ (List.mem_of_getElem? (i := 18) rfl)
theorem aw_691 : Cond.selects RX0 yX0_setHangingOn yX0_setHangingOn ∈ AW := in_wsL_law_r29 _ (List.mem_of_getElem? (i := 19) rfl)
theorem aw_692 : Cond.code yX0_setHangingOn cX0_setHangingOn 5 (some .int) ∈ AW := in_wsL_law_r29 _ (List.mem_of_getElem? (i := 20) rfl)
theorem aw_693 : Cond.methodLink RL 115 yX8_chain ∈ AW := in_wsL_law_r29 _ (List.mem_of_getElem? (i := 21) rfl)
theorem aw_694 : Cond.instanceMethod yX8_chain ∈ AW := in_wsL_law_r29 _ (List.mem_of_getElem? (i := 22) rfl)
theorem aw_695 : Cond.selects RX8 yX8_chain yX8_chain ∈ AW := in_wsL_law_r29 _ (List.mem_of_getElem? (i := 23) rfl)
theorem aw_696 : Cond.code yX8_chain cX8_chain 6 (some .int) ∈ AW := in_wsL_law_r30 _ (List.mem_of_getElem? (i := 0) rfl)
theorem aw_697 : Cond.methodLink RL 116 yX7_fee ∈ AW := in_wsL_law_r30 _ (List.mem_of_getElem? (i := 1) rfl)
theorem aw_698 : Cond.instanceMethod yX7_fee ∈ AW := in_wsL_law_r30 _ (List.mem_of_getElem? (i := 2) rfl)
theorem aw_699 : Cond.selects RX7 yX7_fee yX7_fee ∈ AW := in_wsL_law_r30 _ (List.mem_of_getElem? (i := 3) rfl)
theorem aw_700 : Cond.code yX7_fee cX7_fee 2 (some .int) ∈ AW := in_wsL_law_r30 _ (List.mem_of_getElem? (i := 4) rfl)
theorem aw_701 : Cond.methodLink RL 119 yX8_fee ∈ AW := in_wsL_law_r30 _ (List.mem_of_getElem? (i := 5) rfl)
theorem aw_702 : Cond.instanceMethod yX8_fee ∈ AW := in_wsL_law_r30 _ (List.mem_of_getElem? (i := 6) rfl)
theorem aw_703 : Cond.selects RX8 yX8_fee yX8_fee ∈ AW := in_wsL_law_r30 _ (List.mem_of_getElem? (i := 7) rfl)
theorem aw_704 : Cond.code yX8_fee cX8_fee 3 (some .int) ∈ AW := in_wsL_law_r30 _ (List.mem_of_getElem? (i := 8) rfl)
theorem aw_705 : Cond.methodLink RL 120 yX7_free ∈ AW := in_wsL_law_r30 _ (List.mem_of_getElem? (i := 9) rfl)
theorem aw_706 : Cond.instanceMethod yX7_free ∈ AW := in_wsL_law_r30 _ (List.mem_of_getElem? (i := 10) rfl)
theorem aw_707 : Cond.selects RX7 yX7_free yX7_free ∈ AW := in_wsL_law_r30 _ (List.mem_of_getElem? (i := 11) rfl)
theorem aw_708 : Cond.code yX7_free cX7_free 1 (some .int) ∈ AW := in_wsL_law_r30 _ (List.mem_of_getElem? (i := 12) rfl)
theorem aw_709 : Cond.instanceMethod yX0_setFree ∈ AW := in_wsL_law_r30 _ (List.mem_of_getElem? (i := 13) rfl)
theorem aw_710 : Cond.selects RX0 yX0_setFree yX0_setFree ∈ AW := in_wsL_law_r30 _ (List.mem_of_getElem? (i := 14) rfl)
theorem aw_711 : Cond.code yX0_setFree cX0_setFree 3 (some .int) ∈ AW := in_wsL_law_r30 _ (List.mem_of_getElem? (i := 15) rfl)
theorem aw_712 : Cond.methodLink RL 124 yX8_free ∈ AW := in_wsL_law_r30 _ (List.mem_of_getElem? (i := 16) rfl)
theorem aw_713 : Cond.instanceMethod yX8_free ∈ AW := in_wsL_law_r30 _ (List.mem_of_getElem? (i := 17) rfl)
theorem aw_714 : Cond.selects RX8 yX8_free yX8_free ∈ AW := in_wsL_law_r30 _ (List.mem_of_getElem? (i := 18) rfl)
theorem aw_715 : Cond.code yX8_free cX8_free 3 (some .int) ∈ AW := in_wsL_law_r30 _ (List.mem_of_getElem? (i := 19) rfl)
theorem aw_716 : Cond.methodLink RL 125 yX7_odds ∈ AW := in_wsL_law_r30 _ (List.mem_of_getElem? (i := 20) rfl)
theorem aw_717 : Cond.instanceMethod yX7_odds ∈ AW := in_wsL_law_r30 _ (List.mem_of_getElem? (i := 21) rfl)
theorem aw_718 : Cond.selects RX7 yX7_odds yX7_odds ∈ AW := in_wsL_law_r30 _ (List.mem_of_getElem? (i := 22) rfl)
theorem aw_719 : Cond.code yX7_odds cX7_odds 6 (some .int) ∈ AW := in_wsL_law_r30 _ (List.mem_of_getElem? (i := 23) rfl)
theorem aw_720 : Cond.methodLink RX7 252 yX7_greatestDivisor ∈ AW := in_wsL_law_r31 _ (List.mem_of_getElem? (i := 0) rfl)
theorem aw_721 : Cond.static yX7_greatestDivisor ∈ AW := in_wsL_law_r31 _ (List.mem_of_getElem? (i := 1) rfl)
theorem aw_722 : Cond.code yX7_greatestDivisor cX7_greatestDivisor 3 (some .int) ∈ AW := in_wsL_law_r31 _ (List.mem_of_getElem? (i := 2) rfl)
theorem aw_723 : Cond.methodLink RL 128 yX8_odds ∈ AW := in_wsL_law_r31 _ (List.mem_of_getElem? (i := 3) rfl)
theorem aw_724 : Cond.instanceMethod yX8_odds ∈ AW := in_wsL_law_r31 _ (List.mem_of_getElem? (i := 4) rfl)
theorem aw_725 : Cond.selects RX8 yX8_odds yX8_odds ∈ AW := in_wsL_law_r31 _ (List.mem_of_getElem? (i := 5) rfl)
theorem aw_726 : Cond.code yX8_odds cX8_odds 7 (some .int) ∈ AW := in_wsL_law_r31 _ (List.mem_of_getElem? (i := 6) rfl)
theorem aw_727 : Cond.methodLink RX8 211 yX8_divisor ∈ AW := in_wsL_law_r31 _ (List.mem_of_getElem? (i := 7) rfl)
theorem aw_728 : Cond.static yX8_divisor ∈ AW := in_wsL_law_r31 _ (List.mem_of_getElem? (i := 8) rfl)
theorem aw_729 : Cond.code yX8_divisor cX8_divisor 5 (some .int) ∈ AW := in_wsL_law_r31 _ (List.mem_of_getElem? (i := 9) rfl)
theorem aw_730 : Cond.methodLink RL 129 yX7_seed ∈ AW := in_wsL_law_r31 _ (List.mem_of_getElem? (i := 10) rfl)
theorem aw_731 : Cond.instanceMethod yX7_seed ∈ AW := in_wsL_law_r31 _ (List.mem_of_getElem? (i := 11) rfl)
theorem aw_732 : Cond.selects RX7 yX7_seed yX7_seed ∈ AW := in_wsL_law_r31 _ (List.mem_of_getElem? (i := 12) rfl)
theorem aw_733 : Cond.code yX7_seed cX7_seed 3 (some .int) ∈ AW := in_wsL_law_r31 _ (List.mem_of_getElem? (i := 13) rfl)
theorem aw_734 : Cond.methodLink RL 132 yX8_seed ∈ AW := in_wsL_law_r31 _ (List.mem_of_getElem? (i := 14) rfl)
theorem aw_735 : Cond.instanceMethod yX8_seed ∈ AW := in_wsL_law_r31 _ (List.mem_of_getElem? (i := 15) rfl)
theorem aw_736 : Cond.selects RX8 yX8_seed yX8_seed ∈ AW := in_wsL_law_r31 _ (List.mem_of_getElem? (i := 16) rfl)
theorem aw_737 : Cond.code yX8_seed cX8_seed 3 (some .int) ∈ AW := in_wsL_law_r31 _ (List.mem_of_getElem? (i := 17) rfl)
theorem aw_738 : Cond.methodLink RL 133 yX7_voice ∈ AW := in_wsL_law_r31 _ (List.mem_of_getElem? (i := 18) rfl)
theorem aw_739 : Cond.instanceMethod yX7_voice ∈ AW := in_wsL_law_r31 _ (List.mem_of_getElem? (i := 19) rfl)
theorem aw_740 : Cond.selects RX7 yX7_voice yX7_voice ∈ AW := in_wsL_law_r31 _ (List.mem_of_getElem? (i := 20) rfl)
theorem aw_741 : Cond.code yX7_voice cX7_voice 5 (some .int) ∈ AW := in_wsL_law_r31 _ (List.mem_of_getElem? (i := 21) rfl)
theorem aw_742 : Cond.instanceMethod yX5_beginWith ∈ AW := in_wsL_law_r31 _ (List.mem_of_getElem? (i := 22) rfl)
theorem aw_743 : Cond.selects RX5 yX5_beginWith yX5_beginWith ∈ AW := in_wsL_law_r31 _ (List.mem_of_getElem? (i := 23) rfl)
theorem aw_744 : Cond.code yX5_beginWith cX5_beginWith 4 none ∈ AW := in_wsL_law_r32 _ (List.mem_of_getElem? (i := 0) rfl)
theorem aw_745 : Cond.fieldLink RX5 15 "KnivesGround$Voices" "bodies" "I" ∈ AW := in_wsL_law_r32 _ (List.mem_of_getElem? (i := 1) rfl)
theorem aw_746 : Cond.fieldLink RX5 19 "KnivesGround$Voices" "own" "I" ∈ AW := in_wsL_law_r32 _ (List.mem_of_getElem? (i := 2) rfl)
theorem aw_747 : Cond.fieldLink RX5 22 "KnivesGround$Voices" "n" "I" ∈ AW := in_wsL_law_r32 _ (List.mem_of_getElem? (i := 3) rfl)
theorem aw_748 : Cond.fieldLink RX5 25 "KnivesGround$Voices" "m" "I" ∈ AW := in_wsL_law_r32 _ (List.mem_of_getElem? (i := 4) rfl)
theorem aw_749 : Cond.instanceMethod yX5_say ∈ AW := in_wsL_law_r32 _ (List.mem_of_getElem? (i := 5) rfl)
theorem aw_750 : Cond.selects RX5 yX5_say yX5_say ∈ AW := in_wsL_law_r32 _ (List.mem_of_getElem? (i := 6) rfl)
theorem aw_751 : Cond.code yX5_say cX5_say 3 (some .int) ∈ AW := in_wsL_law_r32 _ (List.mem_of_getElem? (i := 7) rfl)
theorem aw_752 : Cond.methodLink RX5 28 yX5_sayGrinds ∈ AW := in_wsL_law_r32 _ (List.mem_of_getElem? (i := 8) rfl)
theorem aw_753 : Cond.instanceMethod yX5_sayGrinds ∈ AW := in_wsL_law_r32 _ (List.mem_of_getElem? (i := 9) rfl)
theorem aw_754 : Cond.selects RX5 yX5_sayGrinds yX5_sayGrinds ∈ AW := in_wsL_law_r32 _ (List.mem_of_getElem? (i := 10) rfl)
theorem aw_755 : Cond.code yX5_sayGrinds cX5_sayGrinds 3 (some .int) ∈ AW := in_wsL_law_r32 _ (List.mem_of_getElem? (i := 11) rfl)
theorem aw_756 : Cond.methodLink RX5 41 yX5_begin ∈ AW := in_wsL_law_r32 _ (List.mem_of_getElem? (i := 12) rfl)
theorem aw_757 : Cond.instanceMethod yX5_begin ∈ AW := in_wsL_law_r32 _ (List.mem_of_getElem? (i := 13) rfl)
theorem aw_758 : Cond.selects RX5 yX5_begin yX5_begin ∈ AW := in_wsL_law_r32 _ (List.mem_of_getElem? (i := 14) rfl)
theorem aw_759 : Cond.code yX5_begin cX5_begin 2 none ∈ AW := in_wsL_law_r32 _ (List.mem_of_getElem? (i := 15) rfl)
theorem aw_760 : Cond.methodLink RX5 32 yX5_sayCuts ∈ AW := in_wsL_law_r32 _ (List.mem_of_getElem? (i := 16) rfl)
theorem aw_761 : Cond.instanceMethod yX5_sayCuts ∈ AW := in_wsL_law_r32 _ (List.mem_of_getElem? (i := 17) rfl)
theorem aw_762 : Cond.selects RX5 yX5_sayCuts yX5_sayCuts ∈ AW := in_wsL_law_r32 _ (List.mem_of_getElem? (i := 18) rfl)
theorem aw_763 : Cond.code yX5_sayCuts cX5_sayCuts 3 (some .int) ∈ AW := in_wsL_law_r32 _ (List.mem_of_getElem? (i := 19) rfl)
theorem aw_764 : Cond.methodLink RX5 35 yX5_saySparks ∈ AW := in_wsL_law_r32 _ (List.mem_of_getElem? (i := 20) rfl)
theorem aw_765 : Cond.instanceMethod yX5_saySparks ∈ AW := in_wsL_law_r32 _ (List.mem_of_getElem? (i := 21) rfl)
theorem aw_766 : Cond.selects RX5 yX5_saySparks yX5_saySparks ∈ AW := in_wsL_law_r32 _ (List.mem_of_getElem? (i := 22) rfl)
theorem aw_767 : Cond.code yX5_saySparks cX5_saySparks 3 (some .int) ∈ AW := in_wsL_law_r32 _ (List.mem_of_getElem? (i := 23) rfl)
theorem aw_768 : Cond.methodLink RX5 38 yX5_sayTells ∈ AW := in_wsL_law_r33 _ (List.mem_of_getElem? (i := 0) rfl)
theorem aw_769 : Cond.instanceMethod yX5_sayTells ∈ AW := in_wsL_law_r33 _ (List.mem_of_getElem? (i := 1) rfl)
theorem aw_770 : Cond.selects RX5 yX5_sayTells yX5_sayTells ∈ AW := in_wsL_law_r33 _ (List.mem_of_getElem? (i := 2) rfl)
theorem aw_771 : Cond.code yX5_sayTells cX5_sayTells 3 (some .int) ∈ AW := in_wsL_law_r33 _ (List.mem_of_getElem? (i := 3) rfl)
theorem aw_772 : Cond.methodLink RL 136 yX8_voice ∈ AW := in_wsL_law_r33 _ (List.mem_of_getElem? (i := 4) rfl)
theorem aw_773 : Cond.instanceMethod yX8_voice ∈ AW := in_wsL_law_r33 _ (List.mem_of_getElem? (i := 5) rfl)
theorem aw_774 : Cond.selects RX8 yX8_voice yX8_voice ∈ AW := in_wsL_law_r33 _ (List.mem_of_getElem? (i := 6) rfl)
theorem aw_775 : Cond.code yX8_voice cX8_voice 4 (some .int) ∈ AW := in_wsL_law_r33 _ (List.mem_of_getElem? (i := 7) rfl)
theorem aw_776 : Cond.fieldLink RX8 214 "KnivesGroundModel" "tracedMany" "I" ∈ AW := in_wsL_law_r33 _ (List.mem_of_getElem? (i := 8) rfl)
theorem aw_777 : Cond.fieldLink RX8 232 "KnivesGroundModel" "voiceKind" "I" ∈ AW := in_wsL_law_r33 _ (List.mem_of_getElem? (i := 9) rfl)
theorem aw_778 : Cond.fieldLink RX8 220 "KnivesGroundModel" "voiceN" "I" ∈ AW := in_wsL_law_r33 _ (List.mem_of_getElem? (i := 10) rfl)
theorem aw_779 : Cond.fieldLink RX8 226 "KnivesGroundModel" "voiceM" "I" ∈ AW := in_wsL_law_r33 _ (List.mem_of_getElem? (i := 11) rfl)
theorem aw_780 : Cond.methodLink RX8 223 yX8_grindsIn ∈ AW := in_wsL_law_r33 _ (List.mem_of_getElem? (i := 12) rfl)
theorem aw_781 : Cond.instanceMethod yX8_grindsIn ∈ AW := in_wsL_law_r33 _ (List.mem_of_getElem? (i := 13) rfl)
theorem aw_782 : Cond.selects RX8 yX8_grindsIn yX8_grindsIn ∈ AW := in_wsL_law_r33 _ (List.mem_of_getElem? (i := 14) rfl)
theorem aw_783 : Cond.code yX8_grindsIn cX8_grindsIn 3 (some .int) ∈ AW := in_wsL_law_r33 _ (List.mem_of_getElem? (i := 15) rfl)
theorem aw_784 : Cond.methodLink RX8 217 yX8_ran ∈ AW := in_wsL_law_r33 _ (List.mem_of_getElem? (i := 16) rfl)
theorem aw_785 : Cond.instanceMethod yX8_ran ∈ AW := in_wsL_law_r33 _ (List.mem_of_getElem? (i := 17) rfl)
theorem aw_786 : Cond.selects RX8 yX8_ran yX8_ran ∈ AW := in_wsL_law_r33 _ (List.mem_of_getElem? (i := 18) rfl)
theorem aw_787 : Cond.code yX8_ran cX8_ran 2 none ∈ AW := in_wsL_law_r33 _ (List.mem_of_getElem? (i := 19) rfl)
theorem aw_788 : Cond.methodLink RX8 235 yX8_cutsIn ∈ AW := in_wsL_law_r33 _ (List.mem_of_getElem? (i := 20) rfl)
theorem aw_789 : Cond.instanceMethod yX8_cutsIn ∈ AW := in_wsL_law_r33 _ (List.mem_of_getElem? (i := 21) rfl)
theorem aw_790 : Cond.selects RX8 yX8_cutsIn yX8_cutsIn ∈ AW := in_wsL_law_r33 _ (List.mem_of_getElem? (i := 22) rfl)
theorem aw_791 : Cond.code yX8_cutsIn cX8_cutsIn 4 (some .int) ∈ AW := in_wsL_law_r33 _ (List.mem_of_getElem? (i := 23) rfl)
theorem aw_792 : Cond.methodLink RX8 229 yX8_sparksIn ∈ AW := in_wsL_law_r34 _ (List.mem_of_getElem? (i := 0) rfl)
theorem aw_793 : Cond.instanceMethod yX8_sparksIn ∈ AW := in_wsL_law_r34 _ (List.mem_of_getElem? (i := 1) rfl)
theorem aw_794 : Cond.selects RX8 yX8_sparksIn yX8_sparksIn ∈ AW := in_wsL_law_r34 _ (List.mem_of_getElem? (i := 2) rfl)
theorem aw_795 : Cond.code yX8_sparksIn cX8_sparksIn 3 (some .int) ∈ AW := in_wsL_law_r34 _ (List.mem_of_getElem? (i := 3) rfl)
theorem aw_796 : Cond.methodLink RX8 238 yX8_tellsIn ∈ AW := in_wsL_law_r34 _ (List.mem_of_getElem? (i := 4) rfl)
theorem aw_797 : Cond.instanceMethod yX8_tellsIn ∈ AW := in_wsL_law_r34 _ (List.mem_of_getElem? (i := 5) rfl)
theorem aw_798 : Cond.selects RX8 yX8_tellsIn yX8_tellsIn ∈ AW := in_wsL_law_r34 _ (List.mem_of_getElem? (i := 6) rfl)
theorem aw_799 : Cond.code yX8_tellsIn cX8_tellsIn 4 (some .int) ∈ AW := in_wsL_law_r34 _ (List.mem_of_getElem? (i := 7) rfl)
theorem aw_800 : Cond.methodLink RL 137 yX7_trace ∈ AW := in_wsL_law_r34 _ (List.mem_of_getElem? (i := 8) rfl)
theorem aw_801 : Cond.instanceMethod yX7_trace ∈ AW := in_wsL_law_r34 _ (List.mem_of_getElem? (i := 9) rfl)
theorem aw_802 : Cond.selects RX7 yX7_trace yX7_trace ∈ AW := in_wsL_law_r34 _ (List.mem_of_getElem? (i := 10) rfl)
theorem aw_803 : Cond.code yX7_trace cX7_trace 2 (some .int) ∈ AW := in_wsL_law_r34 _ (List.mem_of_getElem? (i := 11) rfl)
theorem aw_804 : Cond.methodLink RL 140 yX8_trace ∈ AW := in_wsL_law_r34 _ (List.mem_of_getElem? (i := 12) rfl)
theorem aw_805 : Cond.instanceMethod yX8_trace ∈ AW := in_wsL_law_r34 _ (List.mem_of_getElem? (i := 13) rfl)
theorem aw_806 : Cond.selects RX8 yX8_trace yX8_trace ∈ AW := in_wsL_law_r34 _ (List.mem_of_getElem? (i := 14) rfl)
theorem aw_807 : Cond.code yX8_trace cX8_trace 2 (some .int) ∈ AW := in_wsL_law_r34 _ (List.mem_of_getElem? (i := 15) rfl)
theorem aw_808 : Cond.methodLink RL 141 yX7_sheet ∈ AW := in_wsL_law_r34 _ (List.mem_of_getElem? (i := 16) rfl)
theorem aw_809 : Cond.instanceMethod yX7_sheet ∈ AW := in_wsL_law_r34 _ (List.mem_of_getElem? (i := 17) rfl)
theorem aw_810 : Cond.selects RX7 yX7_sheet yX7_sheet ∈ AW := in_wsL_law_r34 _ (List.mem_of_getElem? (i := 18) rfl)
theorem aw_811 : Cond.code yX7_sheet cX7_sheet 4 (some .int) ∈ AW := in_wsL_law_r34 _ (List.mem_of_getElem? (i := 19) rfl)
theorem aw_812 : Cond.instanceMethod yX3_lay ∈ AW := in_wsL_law_r34 _ (List.mem_of_getElem? (i := 20) rfl)
theorem aw_813 : Cond.selects RX3 yX3_lay yX3_lay ∈ AW := in_wsL_law_r34 _ (List.mem_of_getElem? (i := 21) rfl)
theorem aw_814 : Cond.code yX3_lay cX3_lay 4 none ∈ AW := in_wsL_law_r34 _ (List.mem_of_getElem? (i := 22) rfl)
theorem aw_815 : Cond.fieldLink RX3 19 "KnivesGround$Sheet" "many" "I" ∈ AW := in_wsL_law_r34 _ (List.mem_of_getElem? (i := 23) rfl)
theorem aw_816 : Cond.methodLink RL 144 yX8_sheet ∈ AW := in_wsL_law_r35 _ (List.mem_of_getElem? (i := 0) rfl)
theorem aw_817 : Cond.instanceMethod yX8_sheet ∈ AW := in_wsL_law_r35 _ (List.mem_of_getElem? (i := 1) rfl)
theorem aw_818 : Cond.selects RX8 yX8_sheet yX8_sheet ∈ AW := in_wsL_law_r35 _ (List.mem_of_getElem? (i := 2) rfl)
theorem aw_819 : Cond.code yX8_sheet cX8_sheet 5 (some .int) ∈ AW := in_wsL_law_r35 _ (List.mem_of_getElem? (i := 3) rfl)
theorem aw_820 : Cond.methodLink RL 145 yX7_put ∈ AW := in_wsL_law_r35 _ (List.mem_of_getElem? (i := 4) rfl)
theorem aw_821 : Cond.instanceMethod yX7_put ∈ AW := in_wsL_law_r35 _ (List.mem_of_getElem? (i := 5) rfl)
theorem aw_822 : Cond.selects RX7 yX7_put yX7_put ∈ AW := in_wsL_law_r35 _ (List.mem_of_getElem? (i := 6) rfl)
theorem aw_823 : Cond.code yX7_put cX7_put 5 (some .int) ∈ AW := in_wsL_law_r35 _ (List.mem_of_getElem? (i := 7) rfl)
theorem aw_824 : Cond.instanceMethod yX3_write ∈ AW := in_wsL_law_r35 _ (List.mem_of_getElem? (i := 8) rfl)
theorem aw_825 : Cond.selects RX3 yX3_write yX3_write ∈ AW := in_wsL_law_r35 _ (List.mem_of_getElem? (i := 9) rfl)
theorem aw_826 : Cond.code yX3_write cX3_write 3 none ∈ AW := in_wsL_law_r35 _ (List.mem_of_getElem? (i := 10) rfl)
theorem aw_827 : Cond.methodLink RL 148 yX8_put ∈ AW := in_wsL_law_r35 _ (List.mem_of_getElem? (i := 11) rfl)
theorem aw_828 : Cond.instanceMethod yX8_put ∈ AW := in_wsL_law_r35 _ (List.mem_of_getElem? (i := 12) rfl)
theorem aw_829 : Cond.selects RX8 yX8_put yX8_put ∈ AW := in_wsL_law_r35 _ (List.mem_of_getElem? (i := 13) rfl)
theorem aw_830 : Cond.code yX8_put cX8_put 4 (some .int) ∈ AW := in_wsL_law_r35 _ (List.mem_of_getElem? (i := 14) rfl)
theorem aw_831 : Cond.methodLink RX8 241 yX8_narrow ∈ AW := in_wsL_law_r35 _ (List.mem_of_getElem? (i := 15) rfl)
theorem aw_832 : Cond.static yX8_narrow ∈ AW := in_wsL_law_r35 _ (List.mem_of_getElem? (i := 16) rfl)
theorem aw_833 : Cond.code yX8_narrow cX8_narrow 2 (some .int) ∈ AW := in_wsL_law_r35 _ (List.mem_of_getElem? (i := 17) rfl)
theorem aw_834 : Cond.methodLink RL 149 yX7_move ∈ AW := in_wsL_law_r35 _ (List.mem_of_getElem? (i := 18) rfl)
theorem aw_835 : Cond.instanceMethod yX7_move ∈ AW := in_wsL_law_r35 _ (List.mem_of_getElem? (i := 19) rfl)
theorem aw_836 : Cond.selects RX7 yX7_move yX7_move ∈ AW := in_wsL_law_r35 _ (List.mem_of_getElem? (i := 20) rfl)
theorem aw_837 : Cond.code yX7_move cX7_move 8 (some .int) ∈ AW := in_wsL_law_r35 _ (List.mem_of_getElem? (i := 21) rfl)
theorem aw_838 : Cond.methodLink RX7 287 arraycopyName ∈ AW := in_wsL_law_r35 _ (List.mem_of_getElem? (i := 22) rfl)
theorem aw_839 : Cond.instanceMethod yX3_hasNumbers ∈ AW := in_wsL_law_r35 _ (List.mem_of_getElem? (i := 23) rfl)
theorem aw_840 : Cond.selects RX3 yX3_hasNumbers yX3_hasNumbers ∈ AW := in_wsL_law_r36 _ (List.mem_of_getElem? (i := 0) rfl)
theorem aw_841 : Cond.code yX3_hasNumbers cX3_hasNumbers 3 (some .boolean) ∈ AW := in_wsL_law_r36 _ (List.mem_of_getElem? (i := 1) rfl)
theorem aw_842 : Cond.methodLink RL 153 yX8_move ∈ AW := in_wsL_law_r36 _ (List.mem_of_getElem? (i := 2) rfl)
theorem aw_843 : Cond.instanceMethod yX8_move ∈ AW := in_wsL_law_r36 _ (List.mem_of_getElem? (i := 3) rfl)
theorem aw_844 : Cond.selects RX8 yX8_move yX8_move ∈ AW := in_wsL_law_r36 _ (List.mem_of_getElem? (i := 4) rfl)
theorem aw_845 : Cond.code yX8_move cX8_move 7 (some .int) ∈ AW := in_wsL_law_r36 _ (List.mem_of_getElem? (i := 5) rfl)
theorem aw_846 : Cond.methodLink RL 154 yX7_edges ∈ AW := in_wsL_law_r36 _ (List.mem_of_getElem? (i := 6) rfl)
theorem aw_847 : Cond.instanceMethod yX7_edges ∈ AW := in_wsL_law_r36 _ (List.mem_of_getElem? (i := 7) rfl)
theorem aw_848 : Cond.selects RX7 yX7_edges yX7_edges ∈ AW := in_wsL_law_r36 _ (List.mem_of_getElem? (i := 8) rfl)
theorem aw_849 : Cond.code yX7_edges cX7_edges 5 (some .int) ∈ AW := in_wsL_law_r36 _ (List.mem_of_getElem? (i := 9) rfl)
theorem aw_850 : Cond.methodLink RX7 293 Lib.Math.min.name ∈ AW := in_wsL_law_r36 _ (List.mem_of_getElem? (i := 10) rfl)
theorem aw_851 : Cond.methodLink RL 157 yX8_edges ∈ AW := in_wsL_law_r36 _ (List.mem_of_getElem? (i := 11) rfl)
theorem aw_852 : Cond.instanceMethod yX8_edges ∈ AW := in_wsL_law_r36 _ (List.mem_of_getElem? (i := 12) rfl)
theorem aw_853 : Cond.selects RX8 yX8_edges yX8_edges ∈ AW := in_wsL_law_r36 _ (List.mem_of_getElem? (i := 13) rfl)
theorem aw_854 : Cond.code yX8_edges cX8_edges 3 (some .int) ∈ AW := in_wsL_law_r36 _ (List.mem_of_getElem? (i := 14) rfl)
theorem aw_855 : Cond.methodLink RL 158 yX7_judge ∈ AW := in_wsL_law_r36 _ (List.mem_of_getElem? (i := 15) rfl)
theorem aw_856 : Cond.instanceMethod yX7_judge ∈ AW := in_wsL_law_r36 _ (List.mem_of_getElem? (i := 16) rfl)
theorem aw_857 : Cond.selects RX7 yX7_judge yX7_judge ∈ AW := in_wsL_law_r36 _ (List.mem_of_getElem? (i := 17) rfl)
theorem aw_858 : Cond.code yX7_judge cX7_judge 5 (some .int) ∈ AW := in_wsL_law_r36 _ (List.mem_of_getElem? (i := 18) rfl)
theorem aw_859 : Cond.methodLink RL 161 yX8_judge ∈ AW := in_wsL_law_r36 _ (List.mem_of_getElem? (i := 19) rfl)
theorem aw_860 : Cond.instanceMethod yX8_judge ∈ AW := in_wsL_law_r36 _ (List.mem_of_getElem? (i := 20) rfl)
theorem aw_861 : Cond.selects RX8 yX8_judge yX8_judge ∈ AW := in_wsL_law_r36 _ (List.mem_of_getElem? (i := 21) rfl)
theorem aw_862 : Cond.code yX8_judge cX8_judge 3 (some .int) ∈ AW := in_wsL_law_r36 _ (List.mem_of_getElem? (i := 22) rfl)
theorem aw_863 : Cond.methodLink RL 162 yX7_image ∈ AW := in_wsL_law_r36 _ (List.mem_of_getElem? (i := 23) rfl)
theorem aw_864 : Cond.instanceMethod yX7_image ∈ AW := in_wsL_law_r37 _ (List.mem_of_getElem? (i := 0) rfl)
theorem aw_865 : Cond.selects RX7 yX7_image yX7_image ∈ AW := in_wsL_law_r37 _ (List.mem_of_getElem? (i := 1) rfl)
theorem aw_866 : Cond.code yX7_image cX7_image 1 (some .int) ∈ AW := in_wsL_law_r37 _ (List.mem_of_getElem? (i := 2) rfl)
theorem aw_867 : Cond.fieldLink RX7 301 "KnivesGround" "images" "I" ∈ AW := in_wsL_law_r37 _ (List.mem_of_getElem? (i := 3) rfl)
theorem aw_868 : Cond.instanceMethod yX6_copyFrom ∈ AW := in_wsL_law_r37 _ (List.mem_of_getElem? (i := 4) rfl)
theorem aw_869 : Cond.selects RX6 yX6_copyFrom yX6_copyFrom ∈ AW := in_wsL_law_r37 _ (List.mem_of_getElem? (i := 5) rfl)
theorem aw_870 : Cond.code yX6_copyFrom cX6_copyFrom 2 none ∈ AW := in_wsL_law_r37 _ (List.mem_of_getElem? (i := 6) rfl)
theorem aw_871 : Cond.fieldLink RX6 53 "KnivesGround$Whole" "bytes" "I" ∈ AW := in_wsL_law_r37 _ (List.mem_of_getElem? (i := 7) rfl)
theorem aw_872 : Cond.methodLink RX6 56 arraycopyName ∈ AW := in_wsL_law_r37 _ (List.mem_of_getElem? (i := 8) rfl)
theorem aw_873 : Cond.fieldLink RX6 62 "KnivesGround$Whole" "waits" "I" ∈ AW := in_wsL_law_r37 _ (List.mem_of_getElem? (i := 9) rfl)
theorem aw_874 : Cond.methodLink RL 165 yX8_image ∈ AW := in_wsL_law_r37 _ (List.mem_of_getElem? (i := 10) rfl)
theorem aw_875 : Cond.instanceMethod yX8_image ∈ AW := in_wsL_law_r37 _ (List.mem_of_getElem? (i := 11) rfl)
theorem aw_876 : Cond.selects RX8 yX8_image yX8_image ∈ AW := in_wsL_law_r37 _ (List.mem_of_getElem? (i := 12) rfl)
theorem aw_877 : Cond.code yX8_image cX8_image 1 (some .int) ∈ AW := in_wsL_law_r37 _ (List.mem_of_getElem? (i := 13) rfl)
theorem aw_878 : Cond.fieldLink RX8 244 "KnivesGroundModel" "isKept" "Z" ∈ AW := in_wsL_law_r37 _ (List.mem_of_getElem? (i := 14) rfl)
theorem aw_879 : Cond.fieldLink RX8 247 "KnivesGroundModel" "images" "I" ∈ AW := in_wsL_law_r37 _ (List.mem_of_getElem? (i := 15) rfl)
theorem aw_880 : Cond.methodLink RL 166 yX7_restore ∈ AW := in_wsL_law_r37 _ (List.mem_of_getElem? (i := 16) rfl)
theorem aw_881 : Cond.instanceMethod yX7_restore ∈ AW := in_wsL_law_r37 _ (List.mem_of_getElem? (i := 17) rfl)
theorem aw_882 : Cond.selects RX7 yX7_restore yX7_restore ∈ AW := in_wsL_law_r37 _ (List.mem_of_getElem? (i := 18) rfl)
theorem aw_883 : Cond.code yX7_restore cX7_restore 1 (some .int) ∈ AW := in_wsL_law_r37 _ (List.mem_of_getElem? (i := 19) rfl)
theorem aw_884 : Cond.methodLink RL 169 yX8_restore ∈ AW := in_wsL_law_r37 _ (List.mem_of_getElem? (i := 20) rfl)
theorem aw_885 : Cond.instanceMethod yX8_restore ∈ AW := in_wsL_law_r37 _ (List.mem_of_getElem? (i := 21) rfl)
theorem aw_886 : Cond.selects RX8 yX8_restore yX8_restore ∈ AW := in_wsL_law_r37 _ (List.mem_of_getElem? (i := 22) rfl)
theorem aw_887 : Cond.code yX8_restore cX8_restore 1 (some .int) ∈ AW := in_wsL_law_r37 _ (List.mem_of_getElem? (i := 23) rfl)
theorem aw_888 : Cond.methodLink RL 170 yX7_tell ∈ AW := in_wsL_law_r38 _ (List.mem_of_getElem? (i := 0) rfl)
theorem aw_889 : Cond.instanceMethod yX7_tell ∈ AW := in_wsL_law_r38 _ (List.mem_of_getElem? (i := 1) rfl)
theorem aw_890 : Cond.selects RX7 yX7_tell yX7_tell ∈ AW := in_wsL_law_r38 _ (List.mem_of_getElem? (i := 2) rfl)
theorem aw_891 : Cond.code yX7_tell cX7_tell 2 (some .int) ∈ AW := in_wsL_law_r38 _ (List.mem_of_getElem? (i := 3) rfl)
theorem aw_892 : Cond.methodLink RL 173 yX8_tell ∈ AW := in_wsL_law_r38 _ (List.mem_of_getElem? (i := 4) rfl)
theorem aw_893 : Cond.instanceMethod yX8_tell ∈ AW := in_wsL_law_r38 _ (List.mem_of_getElem? (i := 5) rfl)
theorem aw_894 : Cond.selects RX8 yX8_tell yX8_tell ∈ AW := in_wsL_law_r38 _ (List.mem_of_getElem? (i := 6) rfl)
theorem aw_895 : Cond.code yX8_tell cX8_tell 2 (some .int) ∈ AW := in_wsL_law_r38 _ (List.mem_of_getElem? (i := 7) rfl)
theorem aw_896 : Cond.methodLink RL 174 yX7_check ∈ AW := in_wsL_law_r38 _ (List.mem_of_getElem? (i := 8) rfl)
theorem aw_897 : Cond.instanceMethod yX7_check ∈ AW := in_wsL_law_r38 _ (List.mem_of_getElem? (i := 9) rfl)
theorem aw_898 : Cond.selects RX7 yX7_check yX7_check ∈ AW := in_wsL_law_r38 _ (List.mem_of_getElem? (i := 10) rfl)
theorem aw_899 : Cond.code yX7_check cX7_check 3 (some .int) ∈ AW := in_wsL_law_r38 _ (List.mem_of_getElem? (i := 11) rfl)
theorem aw_900 : Cond.methodLink RL 177 yX8_check ∈ AW := in_wsL_law_r38 _ (List.mem_of_getElem? (i := 12) rfl)
theorem aw_901 : Cond.instanceMethod yX8_check ∈ AW := in_wsL_law_r38 _ (List.mem_of_getElem? (i := 13) rfl)
theorem aw_902 : Cond.selects RX8 yX8_check yX8_check ∈ AW := in_wsL_law_r38 _ (List.mem_of_getElem? (i := 14) rfl)
theorem aw_903 : Cond.code yX8_check cX8_check 4 (some .int) ∈ AW := in_wsL_law_r38 _ (List.mem_of_getElem? (i := 15) rfl)
theorem aw_904 : Cond.methodLink RL 178 yX7_count ∈ AW := in_wsL_law_r38 _ (List.mem_of_getElem? (i := 16) rfl)
theorem aw_905 : Cond.instanceMethod yX7_count ∈ AW := in_wsL_law_r38 _ (List.mem_of_getElem? (i := 17) rfl)
theorem aw_906 : Cond.selects RX7 yX7_count yX7_count ∈ AW := in_wsL_law_r38 _ (List.mem_of_getElem? (i := 18) rfl)
theorem aw_907 : Cond.code yX7_count cX7_count 3 (some .int) ∈ AW := in_wsL_law_r38 _ (List.mem_of_getElem? (i := 19) rfl)
theorem aw_908 : Cond.instanceMethod yX0_edgesTogether ∈ AW := in_wsL_law_r38 _ (List.mem_of_getElem? (i := 20) rfl)
theorem aw_909 : Cond.selects RX0 yX0_edgesTogether yX0_edgesTogether ∈ AW := in_wsL_law_r38 _ (List.mem_of_getElem? (i := 21) rfl)
theorem aw_910 : Cond.code yX0_edgesTogether cX0_edgesTogether 3 (some .int) ∈ AW := in_wsL_law_r38 _ (List.mem_of_getElem? (i := 22) rfl)
theorem aw_911 : Cond.methodLink RL 181 yX8_count ∈ AW := in_wsL_law_r38 _ (List.mem_of_getElem? (i := 23) rfl)
theorem aw_912 : Cond.instanceMethod yX8_count ∈ AW := in_wsL_law_r39 _ (List.mem_of_getElem? (i := 0) rfl)
theorem aw_913 : Cond.selects RX8 yX8_count yX8_count ∈ AW := in_wsL_law_r39 _ (List.mem_of_getElem? (i := 1) rfl)
theorem aw_914 : Cond.code yX8_count cX8_count 2 (some .int) ∈ AW := in_wsL_law_r39 _ (List.mem_of_getElem? (i := 2) rfl)
theorem aw_915 : Cond.methodLink RX8 250 yX8_edgesOfAll ∈ AW := in_wsL_law_r39 _ (List.mem_of_getElem? (i := 3) rfl)
theorem aw_916 : Cond.instanceMethod yX8_edgesOfAll ∈ AW := in_wsL_law_r39 _ (List.mem_of_getElem? (i := 4) rfl)
theorem aw_917 : Cond.selects RX8 yX8_edgesOfAll yX8_edgesOfAll ∈ AW := in_wsL_law_r39 _ (List.mem_of_getElem? (i := 5) rfl)
theorem aw_918 : Cond.code yX8_edgesOfAll cX8_edgesOfAll 3 (some .int) ∈ AW := in_wsL_law_r39 _ (List.mem_of_getElem? (i := 6) rfl)
theorem aw_919 : Cond.methodLink RL 182 yX7_told ∈ AW := in_wsL_law_r39 _ (List.mem_of_getElem? (i := 7) rfl)
theorem aw_920 : Cond.instanceMethod yX7_told ∈ AW := in_wsL_law_r39 _ (List.mem_of_getElem? (i := 8) rfl)
theorem aw_921 : Cond.selects RX7 yX7_told yX7_told ∈ AW := in_wsL_law_r39 _ (List.mem_of_getElem? (i := 9) rfl)
theorem aw_922 : Cond.code yX7_told cX7_told 2 (some .int) ∈ AW := in_wsL_law_r39 _ (List.mem_of_getElem? (i := 10) rfl)
theorem aw_923 : Cond.methodLink RL 185 yX8_told ∈ AW := in_wsL_law_r39 _ (List.mem_of_getElem? (i := 11) rfl)
theorem aw_924 : Cond.instanceMethod yX8_told ∈ AW := in_wsL_law_r39 _ (List.mem_of_getElem? (i := 12) rfl)
theorem aw_925 : Cond.selects RX8 yX8_told yX8_told ∈ AW := in_wsL_law_r39 _ (List.mem_of_getElem? (i := 13) rfl)
theorem aw_926 : Cond.code yX8_told cX8_told 2 (some .int) ∈ AW := in_wsL_law_r39 _ (List.mem_of_getElem? (i := 14) rfl)
theorem awF7 : ∀ w ∈ wsX70, w ∈ AW := fun w h => List.mem_append_left _ (List.mem_append_left _ (List.mem_append_left _ (List.mem_append_left _ (List.mem_append_left _ (List.mem_append_left _ (List.mem_append_left _ (List.mem_append_left _ (List.mem_append_left _ ((List.mem_append_right _ h))))))))))
theorem awF8 : ∀ w ∈ wsX80, w ∈ AW := fun w h => List.mem_append_left _ (List.mem_append_left _ (List.mem_append_left _ (List.mem_append_left _ (List.mem_append_left _ (List.mem_append_left _ (List.mem_append_left _ (List.mem_append_left _ ((List.mem_append_right _ h)))))))))
theorem awF6 : ∀ w ∈ wsX60, w ∈ AW := fun w h => List.mem_append_left _ (List.mem_append_left _ (List.mem_append_left _ (List.mem_append_left _ (List.mem_append_left _ (List.mem_append_left _ (List.mem_append_left _ ((List.mem_append_right _ h))))))))
theorem awF0 : ∀ w ∈ wsX00, w ∈ AW := fun w h => List.mem_append_left _ (List.mem_append_left _ (List.mem_append_left _ (List.mem_append_left _ (List.mem_append_left _ (List.mem_append_left _ ((List.mem_append_right _ h)))))))
theorem awF2 : ∀ w ∈ wsX20, w ∈ AW := fun w h => List.mem_append_left _ (List.mem_append_left _ (List.mem_append_left _ (List.mem_append_left _ (List.mem_append_left _ ((List.mem_append_right _ h))))))
theorem awF5 : ∀ w ∈ wsX50, w ∈ AW := fun w h => List.mem_append_left _ (List.mem_append_left _ (List.mem_append_left _ (List.mem_append_left _ ((List.mem_append_right _ h)))))
theorem awF3 : ∀ w ∈ wsX30, w ∈ AW := fun w h => List.mem_append_left _ (List.mem_append_left _ (List.mem_append_left _ ((List.mem_append_right _ h))))
theorem awF4 : ∀ w ∈ wsX40, w ∈ AW := fun w h => List.mem_append_left _ (List.mem_append_left _ ((List.mem_append_right _ h)))
theorem awF1 : ∀ w ∈ wsX10, w ∈ AW := fun w h => List.mem_append_left _ ((List.mem_append_right _ h))
abbrev NWF : List (String × Nat × String × String × String × String) := [(RX2, 85, "KnivesGround$Text", "use", "I", "KnivesGround"), (RX7, 120, "KnivesGround$One", "kind", "I", "KnivesGround"), (RX7, 123, "KnivesGround$One", "m", "I", "KnivesGround"), (RX0, 90, "KnivesGround$One", "m", "I", "KnivesGround"), (RX7, 101, "KnivesGround$One", "area", "I", "KnivesGround"), (RX0, 58, "KnivesGround$One", "area", "I", "KnivesGround"), (RX7, 104, "KnivesGround$One", "edge", "I", "KnivesGround"), (RX0, 65, "KnivesGround$One", "edge", "I", "KnivesGround"), (RX7, 107, "KnivesGround$One", "on", "I", "KnivesGround"), (RX0, 108, "KnivesGround$One", "on", "I", "KnivesGround"), (RX7, 114, "KnivesGround$One", "age", "I", "KnivesGround"), (RX0, 87, "KnivesGround$One", "age", "I", "KnivesGround"), (RX7, 110, "KnivesGround$One", "ended", "Z", "KnivesGround"), (RX0, 61, "KnivesGround$One", "ended", "Z", "KnivesGround"), (RX7, 91, "KnivesGround$Ground", "ones", "[LKnivesGround$One;", "KnivesGround"), (RX7, 86, "KnivesGround$Ground", "many", "I", "KnivesGround"), (RX7, 201, "KnivesGround$Ground", "grinder", "I", "KnivesGround"), (RX7, 188, "KnivesGround$Ground", "step", "I", "KnivesGround"), (RX7, 174, "KnivesGround$Ground", "day", "I", "KnivesGround"), (RX7, 222, "KnivesGround$Ground", "harm", "I", "KnivesGround"), (RX7, 246, "KnivesGround$Ground", "pence", "I", "KnivesGround"), (RX7, 21, "KnivesGround$Whole", "grinds", "LKnivesGround$Text;", "KnivesGround"), (RX7, 25, "KnivesGround$Whole", "harms", "LKnivesGround$Text;", "KnivesGround"), (RX7, 72, "KnivesGround$Whole", "ground", "LKnivesGround$Ground;", "KnivesGround"), (RX7, 150, "KnivesGround$Whole", "tape", "[I", "KnivesGround"), (RX7, 307, "KnivesGround$Whole", "waiting", "[I", "KnivesGround"), (RX7, 147, "KnivesGround$Whole", "bytes", "I", "KnivesGround"), (RX7, 304, "KnivesGround$Whole", "waits", "I", "KnivesGround"), (RX7, 255, "KnivesGround$Whole", "z", "I", "KnivesGround"), (RX7, 161, "KnivesGround$Reader", "text", "LKnivesGround$Text;", "KnivesGround"), (RX7, 268, "KnivesGround$Voices", "trace", "[I", "KnivesGround"), (RX7, 265, "KnivesGround$Voices", "bodies", "I", "KnivesGround"), (RX0, 118, "KnivesGround$Sheet", "numbers", "[I", "KnivesGround"), (RX7, 284, "KnivesGround$Sheet", "numbers", "[I", "KnivesGround"), (RX7, 278, "KnivesGround$Sheet", "bits", "I", "KnivesGround"), (RX0, 115, "KnivesGround$Sheet", "many", "I", "KnivesGround"), (RX7, 232, "KnivesGround$Sheet", "many", "I", "KnivesGround"), (RX1, 34, "KnivesGround", "KIND_ABOVE", "[I", "KnivesGround")]
abbrev NWM : List (String × Nat × MethodName × String) := [(RX7, 11, yX6_init, "KnivesGround"), (RX6, 11, yX4_init, "KnivesGround"), (RX6, 23, yX0_init, "KnivesGround"), (RX0, 28, yX1_init, "KnivesGround"), (RX6, 41, yX4_clear, "KnivesGround"), (RX7, 28, yX0_init, "KnivesGround"), (RX7, 37, yX2_init, "KnivesGround"), (RX2, 11, yX4_init, "KnivesGround"), (RX7, 44, yX5_init, "KnivesGround"), (RX7, 59, yX3_init, "KnivesGround"), (RX7, 75, yX0_setGrinder, "KnivesGround"), (RX7, 79, yX0_setInArea, "KnivesGround"), (RX7, 95, yX1_turnInto, "KnivesGround"), (RX7, 126, yX0_gainsOf, "KnivesGround"), (RX0, 93, yX4_gives, "KnivesGround"), (RX0, 105, yX1_gains, "KnivesGround"), (RX7, 130, yX1_needs, "KnivesGround"), (RX7, 134, yX1_dulls, "KnivesGround"), (RX7, 140, yX1_changeTo, "KnivesGround"), (RX7, 143, yX1_isOfKind, "KnivesGround"), (RX7, 153, yX2_read, "KnivesGround"), (RX2, 44, yX4_clear, "KnivesGround"), (RX2, 88, yX7_isWithin, "KnivesGround"), (RX2, 62, yX4_add, "KnivesGround"), (RX7, 157, yX6_textOf, "KnivesGround"), (RX7, 164, yX4_copyFrom, "KnivesGround"), (RX7, 170, yX4_gives, "KnivesGround"), (RX7, 178, yX0_passDay, "KnivesGround"), (RX0, 79, yX1_needs, "KnivesGround"), (RX0, 111, yX7_isWithin, "KnivesGround"), (RX0, 99, yX1_dulls, "KnivesGround"), (RX7, 182, yX0_endedMany, "KnivesGround"), (RX7, 185, yX6_draw, "KnivesGround"), (RX7, 315, yX0_copyFrom, "KnivesGround"), (RX0, 32, yX1_copyFrom, "KnivesGround"), (RX7, 198, yX0_setEnded, "KnivesGround"), (RX7, 204, yX0_setItHangsOn, "KnivesGround"), (RX7, 212, yX0_sharpen, "KnivesGround"), (RX7, 228, yX3_isMissing, "KnivesGround"), (RX7, 233, yX0_hasEdges, "KnivesGround"), (RX7, 240, yX0_restDay, "KnivesGround"), (RX7, 243, yX0_setHangingOn, "KnivesGround"), (RX7, 249, yX0_setFree, "KnivesGround"), (RX7, 258, yX5_beginWith, "KnivesGround"), (RX7, 262, yX5_say, "KnivesGround"), (RX7, 271, yX3_lay, "KnivesGround"), (RX7, 275, yX3_write, "KnivesGround"), (RX7, 281, yX3_hasNumbers, "KnivesGround"), (RX7, 298, yX6_copyFrom, "KnivesGround"), (RX6, 46, yX4_copyFrom, "KnivesGround"), (RX6, 50, yX0_copyFrom, "KnivesGround"), (RX7, 310, yX0_edgesTogether, "KnivesGround")]
abbrev nwf (q : String × Nat × String × String × String × String) : Cond := .fieldLinkNest q.1 q.2.1 q.2.2.1 q.2.2.2.1 q.2.2.2.2.1 q.2.2.2.2.2
abbrev nwm (q : String × Nat × MethodName × String) : Cond := .methodLinkNest q.1 q.2.1 q.2.2.1 q.2.2.2
end
section
theorem tk_1 : ∀ w ∈ tables_1_1, w ∈ lw_tbl := fun w h => List.mem_append_right _ (List.mem_append_left _ h)
theorem tk_2 : ∀ w ∈ tables_1_2, w ∈ lw_tbl := fun w h => List.mem_append_right _ (List.mem_append_right _ (List.mem_append_left _ h))
theorem tk_3 : ∀ w ∈ tables_1_3, w ∈ lw_tbl := fun w h => List.mem_append_right _ (List.mem_append_right _ (List.mem_append_right _ (List.mem_append_left _ h)))
theorem tk_4 : ∀ w ∈ tables_1_4, w ∈ lw_tbl := fun w h => List.mem_append_right _ (List.mem_append_right _ (List.mem_append_right _ (List.mem_append_right _ (List.mem_append_left _ h))))
theorem tk_5 : ∀ w ∈ tables_1_5, w ∈ lw_tbl := fun w h => List.mem_append_right _ (List.mem_append_right _ (List.mem_append_right _ (List.mem_append_right _ (List.mem_append_right _ (h)))))
theorem pk_1 : ∀ x ∈ lw_privs_1, Cond.selects x.1.cls x.1 x.1 ∈ lw_tbl := fun x h => List.mem_append_left _ (List.mem_map.mpr ⟨x, List.mem_append_left _ h, rfl⟩)
theorem pk_2 : ∀ x ∈ lw_privs_2, Cond.selects x.1.cls x.1 x.1 ∈ lw_tbl := fun x h => List.mem_append_left _ (List.mem_map.mpr ⟨x, List.mem_append_right _ (List.mem_append_left _ h), rfl⟩)
theorem pk_3 : ∀ x ∈ lw_privs_3, Cond.selects x.1.cls x.1 x.1 ∈ lw_tbl := fun x h => List.mem_append_left _ (List.mem_map.mpr ⟨x, List.mem_append_right _ (List.mem_append_right _ (List.mem_append_left _ h)), rfl⟩)
theorem pk_4 : ∀ x ∈ lw_privs_4, Cond.selects x.1.cls x.1 x.1 ∈ lw_tbl := fun x h => List.mem_append_left _ (List.mem_map.mpr ⟨x, List.mem_append_right _ (List.mem_append_right _ (List.mem_append_right _ (List.mem_append_left _ h))), rfl⟩)
theorem pk_5 : ∀ x ∈ lw_privs_5, Cond.selects x.1.cls x.1 x.1 ∈ lw_tbl := fun x h => List.mem_append_left _ (List.mem_map.mpr ⟨x, List.mem_append_right _ (List.mem_append_right _ (List.mem_append_right _ (List.mem_append_right _ (List.mem_append_left _ h)))), rfl⟩)
theorem pk_6 : ∀ x ∈ lw_privs_6, Cond.selects x.1.cls x.1 x.1 ∈ lw_tbl := fun x h => List.mem_append_left _ (List.mem_map.mpr ⟨x, List.mem_append_right _ (List.mem_append_right _ (List.mem_append_right _ (List.mem_append_right _ (List.mem_append_right _ (List.mem_append_left _ h))))), rfl⟩)
theorem pk_7 : ∀ x ∈ lw_privs_7, Cond.selects x.1.cls x.1 x.1 ∈ lw_tbl := fun x h => List.mem_append_left _ (List.mem_map.mpr ⟨x, List.mem_append_right _ (List.mem_append_right _ (List.mem_append_right _ (List.mem_append_right _ (List.mem_append_right _ (List.mem_append_right _ (h)))))), rfl⟩)
set_option maxRecDepth 100000 in
theorem it_wsL_law_r1 : ∀ w ∈ wsL_law_r1, w ∈ lw_tbl := List.forall_mem_cons.mpr ⟨(tk_1 _ (List.mem_of_getElem? (i := 13) rfl)), List.forall_mem_cons.mpr ⟨(tk_1 _ (List.mem_of_getElem? (i := 14) rfl)), List.forall_mem_cons.mpr ⟨(tk_1 _ (List.mem_of_getElem? (i := 1) rfl)), List.forall_mem_cons.mpr ⟨(tk_4 _ (List.mem_of_getElem? (i := 20) rfl)), List.forall_mem_cons.mpr ⟨(tk_4 _ (List.mem_of_getElem? (i := 21) rfl)), List.forall_mem_cons.mpr ⟨(tk_1 _ (List.mem_of_getElem? (i := 9) rfl)), List.forall_mem_cons.mpr ⟨(tk_5 _ (List.mem_of_getElem? (i := 219) rfl)), List.forall_mem_cons.mpr ⟨(tk_1 _ (List.mem_of_getElem? (i := 15) rfl)), List.forall_mem_cons.mpr ⟨(tk_1 _ (List.mem_of_getElem? (i := 16) rfl)), List.forall_mem_cons.mpr ⟨(tk_1 _ (List.mem_of_getElem? (i := 17) rfl)), List.forall_mem_cons.mpr ⟨(tk_1 _ (List.mem_of_getElem? (i := 18) rfl)), List.forall_mem_cons.mpr ⟨(tk_1 _ (List.mem_of_getElem? (i := 19) rfl)), List.forall_mem_cons.mpr ⟨(tk_1 _ (List.mem_of_getElem? (i := 20) rfl)), List.forall_mem_cons.mpr ⟨(tk_1 _ (List.mem_of_getElem? (i := 21) rfl)), List.forall_mem_cons.mpr ⟨(tk_1 _ (List.mem_of_getElem? (i := 22) rfl)), List.forall_mem_cons.mpr ⟨(tk_1 _ (List.mem_of_getElem? (i := 2) rfl)), List.forall_mem_cons.mpr ⟨(tk_2 _ (List.mem_of_getElem? (i := 7) rfl)), List.forall_mem_cons.mpr ⟨(tk_2 _ (List.mem_of_getElem? (i := 8) rfl)), List.forall_mem_cons.mpr ⟨(tk_1 _ (List.mem_of_getElem? (i := 174) rfl)), List.forall_mem_cons.mpr ⟨(tk_1 _ (List.mem_of_getElem? (i := 55) rfl)), List.forall_mem_cons.mpr ⟨(tk_1 _ (List.mem_of_getElem? (i := 4) rfl)), List.forall_mem_cons.mpr ⟨(tk_2 _ (List.mem_of_getElem? (i := 9) rfl)), List.forall_mem_cons.mpr ⟨(tk_1 _ (List.mem_of_getElem? (i := 176) rfl)), List.forall_mem_cons.mpr ⟨(tk_1 _ (List.mem_of_getElem? (i := 177) rfl)), fun _ h => absurd h List.not_mem_nil⟩⟩⟩⟩⟩⟩⟩⟩⟩⟩⟩⟩⟩⟩⟩⟩⟩⟩⟩⟩⟩⟩⟩⟩
set_option maxRecDepth 100000 in
theorem it_wsL_law_r2 : ∀ w ∈ wsL_law_r2, w ∈ lw_tbl := List.forall_mem_cons.mpr ⟨(tk_1 _ (List.mem_of_getElem? (i := 6) rfl)), List.forall_mem_cons.mpr ⟨(tk_2 _ (List.mem_of_getElem? (i := 10) rfl)), List.forall_mem_cons.mpr ⟨(tk_1 _ (List.mem_of_getElem? (i := 201) rfl)), List.forall_mem_cons.mpr ⟨(tk_1 _ (List.mem_of_getElem? (i := 202) rfl)), List.forall_mem_cons.mpr ⟨(tk_1 _ (List.mem_of_getElem? (i := 7) rfl)), List.forall_mem_cons.mpr ⟨(tk_2 _ (List.mem_of_getElem? (i := 11) rfl)), List.forall_mem_cons.mpr ⟨(tk_1 _ (List.mem_of_getElem? (i := 225) rfl)), List.forall_mem_cons.mpr ⟨(tk_2 _ (List.mem_of_getElem? (i := 12) rfl)), List.forall_mem_cons.mpr ⟨(tk_1 _ (List.mem_of_getElem? (i := 53) rfl)), List.forall_mem_cons.mpr ⟨(tk_2 _ (List.mem_of_getElem? (i := 13) rfl)), List.forall_mem_cons.mpr ⟨(tk_1 _ (List.mem_of_getElem? (i := 227) rfl)), List.forall_mem_cons.mpr ⟨(tk_1 _ (List.mem_of_getElem? (i := 8) rfl)), List.forall_mem_cons.mpr ⟨(tk_1 _ (List.mem_of_getElem? (i := 24) rfl)), List.forall_mem_cons.mpr ⟨(tk_1 _ (List.mem_of_getElem? (i := 25) rfl)), List.forall_mem_cons.mpr ⟨(tk_1 _ (List.mem_of_getElem? (i := 26) rfl)), List.forall_mem_cons.mpr ⟨(tk_1 _ (List.mem_of_getElem? (i := 27) rfl)), List.forall_mem_cons.mpr ⟨(tk_1 _ (List.mem_of_getElem? (i := 28) rfl)), List.forall_mem_cons.mpr ⟨(tk_1 _ (List.mem_of_getElem? (i := 3) rfl)), List.forall_mem_cons.mpr ⟨(tk_1 _ (List.mem_of_getElem? (i := 141) rfl)), List.forall_mem_cons.mpr ⟨(tk_1 _ (List.mem_of_getElem? (i := 143) rfl)), List.forall_mem_cons.mpr ⟨(tk_1 _ (List.mem_of_getElem? (i := 54) rfl)), List.forall_mem_cons.mpr ⟨(tk_1 _ (List.mem_of_getElem? (i := 145) rfl)), List.forall_mem_cons.mpr ⟨(tk_1 _ (List.mem_of_getElem? (i := 147) rfl)), List.forall_mem_cons.mpr ⟨(tk_1 _ (List.mem_of_getElem? (i := 149) rfl)), fun _ h => absurd h List.not_mem_nil⟩⟩⟩⟩⟩⟩⟩⟩⟩⟩⟩⟩⟩⟩⟩⟩⟩⟩⟩⟩⟩⟩⟩⟩
set_option maxRecDepth 100000 in
theorem it_wsL_law_r3 : ∀ w ∈ wsL_law_r3, w ∈ lw_tbl := List.forall_mem_cons.mpr ⟨(tk_1 _ (List.mem_of_getElem? (i := 155) rfl)), List.forall_mem_cons.mpr ⟨(tk_1 _ (List.mem_of_getElem? (i := 30) rfl)), List.forall_mem_cons.mpr ⟨(tk_1 _ (List.mem_of_getElem? (i := 31) rfl)), List.forall_mem_cons.mpr ⟨(tk_1 _ (List.mem_of_getElem? (i := 32) rfl)), List.forall_mem_cons.mpr ⟨(tk_1 _ (List.mem_of_getElem? (i := 33) rfl)), List.forall_mem_cons.mpr ⟨(tk_1 _ (List.mem_of_getElem? (i := 34) rfl)), List.forall_mem_cons.mpr ⟨(tk_1 _ (List.mem_of_getElem? (i := 35) rfl)), List.forall_mem_cons.mpr ⟨(tk_1 _ (List.mem_of_getElem? (i := 36) rfl)), List.forall_mem_cons.mpr ⟨(tk_1 _ (List.mem_of_getElem? (i := 57) rfl)), List.forall_mem_cons.mpr ⟨(tk_1 _ (List.mem_of_getElem? (i := 58) rfl)), List.forall_mem_cons.mpr ⟨(tk_1 _ (List.mem_of_getElem? (i := 59) rfl)), List.forall_mem_cons.mpr ⟨(tk_1 _ (List.mem_of_getElem? (i := 60) rfl)), List.forall_mem_cons.mpr ⟨(tk_1 _ (List.mem_of_getElem? (i := 104) rfl)), List.forall_mem_cons.mpr ⟨(tk_1 _ (List.mem_of_getElem? (i := 110) rfl)), List.forall_mem_cons.mpr ⟨(tk_1 _ (List.mem_of_getElem? (i := 102) rfl)), List.forall_mem_cons.mpr ⟨(tk_1 _ (List.mem_of_getElem? (i := 103) rfl)), List.forall_mem_cons.mpr ⟨(tk_1 _ (List.mem_of_getElem? (i := 62) rfl)), List.forall_mem_cons.mpr ⟨(tk_1 _ (List.mem_of_getElem? (i := 5) rfl)), List.forall_mem_cons.mpr ⟨(tk_1 _ (List.mem_of_getElem? (i := 64) rfl)), List.forall_mem_cons.mpr ⟨(tk_1 _ (List.mem_of_getElem? (i := 65) rfl)), List.forall_mem_cons.mpr ⟨(tk_1 _ (List.mem_of_getElem? (i := 66) rfl)), List.forall_mem_cons.mpr ⟨(tk_1 _ (List.mem_of_getElem? (i := 139) rfl)), List.forall_mem_cons.mpr ⟨(pk_1 _ (List.mem_of_getElem? (i := 0) rfl)), List.forall_mem_cons.mpr ⟨(tk_1 _ (List.mem_of_getElem? (i := 140) rfl)), fun _ h => absurd h List.not_mem_nil⟩⟩⟩⟩⟩⟩⟩⟩⟩⟩⟩⟩⟩⟩⟩⟩⟩⟩⟩⟩⟩⟩⟩⟩
set_option maxRecDepth 100000 in
theorem it_wsL_law_r4 : ∀ w ∈ wsL_law_r4, w ∈ lw_tbl := List.forall_mem_cons.mpr ⟨(tk_1 _ (List.mem_of_getElem? (i := 37) rfl)), List.forall_mem_cons.mpr ⟨(tk_1 _ (List.mem_of_getElem? (i := 39) rfl)), List.forall_mem_cons.mpr ⟨(tk_1 _ (List.mem_of_getElem? (i := 179) rfl)), List.forall_mem_cons.mpr ⟨(tk_1 _ (List.mem_of_getElem? (i := 180) rfl)), List.forall_mem_cons.mpr ⟨(tk_1 _ (List.mem_of_getElem? (i := 181) rfl)), List.forall_mem_cons.mpr ⟨(tk_1 _ (List.mem_of_getElem? (i := 182) rfl)), List.forall_mem_cons.mpr ⟨(tk_1 _ (List.mem_of_getElem? (i := 184) rfl)), List.forall_mem_cons.mpr ⟨(tk_1 _ (List.mem_of_getElem? (i := 186) rfl)), List.forall_mem_cons.mpr ⟨(tk_1 _ (List.mem_of_getElem? (i := 204) rfl)), List.forall_mem_cons.mpr ⟨(tk_1 _ (List.mem_of_getElem? (i := 205) rfl)), List.forall_mem_cons.mpr ⟨(tk_1 _ (List.mem_of_getElem? (i := 206) rfl)), List.forall_mem_cons.mpr ⟨(tk_1 _ (List.mem_of_getElem? (i := 207) rfl)), List.forall_mem_cons.mpr ⟨(tk_1 _ (List.mem_of_getElem? (i := 229) rfl)), List.forall_mem_cons.mpr ⟨(tk_1 _ (List.mem_of_getElem? (i := 230) rfl)), List.forall_mem_cons.mpr ⟨(tk_1 _ (List.mem_of_getElem? (i := 231) rfl)), List.forall_mem_cons.mpr ⟨(tk_1 _ (List.mem_of_getElem? (i := 232) rfl)), List.forall_mem_cons.mpr ⟨(tk_4 _ (List.mem_of_getElem? (i := 22) rfl)), List.forall_mem_cons.mpr ⟨(tk_4 _ (List.mem_of_getElem? (i := 23) rfl)), List.forall_mem_cons.mpr ⟨(tk_4 _ (List.mem_of_getElem? (i := 24) rfl)), List.forall_mem_cons.mpr ⟨(tk_4 _ (List.mem_of_getElem? (i := 25) rfl)), List.forall_mem_cons.mpr ⟨(tk_4 _ (List.mem_of_getElem? (i := 26) rfl)), List.forall_mem_cons.mpr ⟨(tk_4 _ (List.mem_of_getElem? (i := 27) rfl)), List.forall_mem_cons.mpr ⟨(tk_4 _ (List.mem_of_getElem? (i := 28) rfl)), List.forall_mem_cons.mpr ⟨(tk_4 _ (List.mem_of_getElem? (i := 31) rfl)), fun _ h => absurd h List.not_mem_nil⟩⟩⟩⟩⟩⟩⟩⟩⟩⟩⟩⟩⟩⟩⟩⟩⟩⟩⟩⟩⟩⟩⟩⟩
set_option maxRecDepth 100000 in
theorem it_wsL_law_r5 : ∀ w ∈ wsL_law_r5, w ∈ lw_tbl := List.forall_mem_cons.mpr ⟨(tk_4 _ (List.mem_of_getElem? (i := 38) rfl)), List.forall_mem_cons.mpr ⟨(tk_4 _ (List.mem_of_getElem? (i := 39) rfl)), List.forall_mem_cons.mpr ⟨(tk_4 _ (List.mem_of_getElem? (i := 40) rfl)), List.forall_mem_cons.mpr ⟨(tk_4 _ (List.mem_of_getElem? (i := 41) rfl)), List.forall_mem_cons.mpr ⟨(tk_4 _ (List.mem_of_getElem? (i := 42) rfl)), List.forall_mem_cons.mpr ⟨(tk_4 _ (List.mem_of_getElem? (i := 43) rfl)), List.forall_mem_cons.mpr ⟨(tk_4 _ (List.mem_of_getElem? (i := 44) rfl)), List.forall_mem_cons.mpr ⟨(tk_4 _ (List.mem_of_getElem? (i := 45) rfl)), List.forall_mem_cons.mpr ⟨(tk_2 _ (List.mem_of_getElem? (i := 32) rfl)), List.forall_mem_cons.mpr ⟨(tk_2 _ (List.mem_of_getElem? (i := 33) rfl)), List.forall_mem_cons.mpr ⟨(tk_2 _ (List.mem_of_getElem? (i := 34) rfl)), List.forall_mem_cons.mpr ⟨(tk_2 _ (List.mem_of_getElem? (i := 35) rfl)), List.forall_mem_cons.mpr ⟨(tk_2 _ (List.mem_of_getElem? (i := 43) rfl)), List.forall_mem_cons.mpr ⟨(tk_2 _ (List.mem_of_getElem? (i := 36) rfl)), List.forall_mem_cons.mpr ⟨(tk_2 _ (List.mem_of_getElem? (i := 37) rfl)), List.forall_mem_cons.mpr ⟨(tk_2 _ (List.mem_of_getElem? (i := 38) rfl)), List.forall_mem_cons.mpr ⟨(tk_2 _ (List.mem_of_getElem? (i := 39) rfl)), List.forall_mem_cons.mpr ⟨(tk_2 _ (List.mem_of_getElem? (i := 40) rfl)), List.forall_mem_cons.mpr ⟨(tk_2 _ (List.mem_of_getElem? (i := 41) rfl)), List.forall_mem_cons.mpr ⟨(tk_2 _ (List.mem_of_getElem? (i := 42) rfl)), List.forall_mem_cons.mpr ⟨(tk_2 _ (List.mem_of_getElem? (i := 44) rfl)), List.forall_mem_cons.mpr ⟨(tk_2 _ (List.mem_of_getElem? (i := 46) rfl)), List.forall_mem_cons.mpr ⟨(pk_1 _ (List.mem_of_getElem? (i := 1) rfl)), List.forall_mem_cons.mpr ⟨(tk_2 _ (List.mem_of_getElem? (i := 47) rfl)), fun _ h => absurd h List.not_mem_nil⟩⟩⟩⟩⟩⟩⟩⟩⟩⟩⟩⟩⟩⟩⟩⟩⟩⟩⟩⟩⟩⟩⟩⟩
set_option maxRecDepth 100000 in
theorem it_wsL_law_r6 : ∀ w ∈ wsL_law_r6, w ∈ lw_tbl := List.forall_mem_cons.mpr ⟨(tk_2 _ (List.mem_of_getElem? (i := 48) rfl)), List.forall_mem_cons.mpr ⟨(tk_2 _ (List.mem_of_getElem? (i := 51) rfl)), List.forall_mem_cons.mpr ⟨(pk_1 _ (List.mem_of_getElem? (i := 2) rfl)), List.forall_mem_cons.mpr ⟨(tk_2 _ (List.mem_of_getElem? (i := 52) rfl)), List.forall_mem_cons.mpr ⟨(tk_1 _ (List.mem_of_getElem? (i := 108) rfl)), List.forall_mem_cons.mpr ⟨(tk_1 _ (List.mem_of_getElem? (i := 114) rfl)), List.forall_mem_cons.mpr ⟨(tk_1 _ (List.mem_of_getElem? (i := 116) rfl)), List.forall_mem_cons.mpr ⟨(tk_4 _ (List.mem_of_getElem? (i := 99) rfl)), List.forall_mem_cons.mpr ⟨(tk_4 _ (List.mem_of_getElem? (i := 100) rfl)), List.forall_mem_cons.mpr ⟨(tk_4 _ (List.mem_of_getElem? (i := 101) rfl)), List.forall_mem_cons.mpr ⟨(tk_4 _ (List.mem_of_getElem? (i := 102) rfl)), List.forall_mem_cons.mpr ⟨(tk_4 _ (List.mem_of_getElem? (i := 109) rfl)), List.forall_mem_cons.mpr ⟨(tk_4 _ (List.mem_of_getElem? (i := 114) rfl)), List.forall_mem_cons.mpr ⟨(tk_4 _ (List.mem_of_getElem? (i := 103) rfl)), List.forall_mem_cons.mpr ⟨(tk_4 _ (List.mem_of_getElem? (i := 104) rfl)), List.forall_mem_cons.mpr ⟨(tk_4 _ (List.mem_of_getElem? (i := 105) rfl)), List.forall_mem_cons.mpr ⟨(tk_4 _ (List.mem_of_getElem? (i := 106) rfl)), List.forall_mem_cons.mpr ⟨(tk_4 _ (List.mem_of_getElem? (i := 107) rfl)), List.forall_mem_cons.mpr ⟨(tk_4 _ (List.mem_of_getElem? (i := 108) rfl)), List.forall_mem_cons.mpr ⟨(tk_4 _ (List.mem_of_getElem? (i := 110) rfl)), List.forall_mem_cons.mpr ⟨(tk_4 _ (List.mem_of_getElem? (i := 112) rfl)), List.forall_mem_cons.mpr ⟨(pk_4 _ (List.mem_of_getElem? (i := 10) rfl)), List.forall_mem_cons.mpr ⟨(tk_4 _ (List.mem_of_getElem? (i := 113) rfl)), List.forall_mem_cons.mpr ⟨(tk_4 _ (List.mem_of_getElem? (i := 115) rfl)), fun _ h => absurd h List.not_mem_nil⟩⟩⟩⟩⟩⟩⟩⟩⟩⟩⟩⟩⟩⟩⟩⟩⟩⟩⟩⟩⟩⟩⟩⟩
set_option maxRecDepth 100000 in
theorem it_wsL_law_r7 : ∀ w ∈ wsL_law_r7, w ∈ lw_tbl := List.forall_mem_cons.mpr ⟨(tk_4 _ (List.mem_of_getElem? (i := 117) rfl)), List.forall_mem_cons.mpr ⟨(pk_4 _ (List.mem_of_getElem? (i := 11) rfl)), List.forall_mem_cons.mpr ⟨(tk_4 _ (List.mem_of_getElem? (i := 118) rfl)), List.forall_mem_cons.mpr ⟨(tk_4 _ (List.mem_of_getElem? (i := 119) rfl)), List.forall_mem_cons.mpr ⟨(tk_2 _ (List.mem_of_getElem? (i := 53) rfl)), List.forall_mem_cons.mpr ⟨(tk_2 _ (List.mem_of_getElem? (i := 54) rfl)), List.forall_mem_cons.mpr ⟨(tk_2 _ (List.mem_of_getElem? (i := 55) rfl)), List.forall_mem_cons.mpr ⟨(tk_2 _ (List.mem_of_getElem? (i := 56) rfl)), List.forall_mem_cons.mpr ⟨(tk_2 _ (List.mem_of_getElem? (i := 59) rfl)), List.forall_mem_cons.mpr ⟨(pk_1 _ (List.mem_of_getElem? (i := 3) rfl)), List.forall_mem_cons.mpr ⟨(tk_2 _ (List.mem_of_getElem? (i := 60) rfl)), List.forall_mem_cons.mpr ⟨(tk_1 _ (List.mem_of_getElem? (i := 106) rfl)), List.forall_mem_cons.mpr ⟨(tk_4 _ (List.mem_of_getElem? (i := 120) rfl)), List.forall_mem_cons.mpr ⟨(tk_4 _ (List.mem_of_getElem? (i := 121) rfl)), List.forall_mem_cons.mpr ⟨(tk_4 _ (List.mem_of_getElem? (i := 122) rfl)), List.forall_mem_cons.mpr ⟨(tk_4 _ (List.mem_of_getElem? (i := 123) rfl)), List.forall_mem_cons.mpr ⟨(tk_4 _ (List.mem_of_getElem? (i := 124) rfl)), List.forall_mem_cons.mpr ⟨(tk_4 _ (List.mem_of_getElem? (i := 126) rfl)), List.forall_mem_cons.mpr ⟨(pk_4 _ (List.mem_of_getElem? (i := 12) rfl)), List.forall_mem_cons.mpr ⟨(tk_4 _ (List.mem_of_getElem? (i := 127) rfl)), List.forall_mem_cons.mpr ⟨(tk_2 _ (List.mem_of_getElem? (i := 61) rfl)), List.forall_mem_cons.mpr ⟨(tk_2 _ (List.mem_of_getElem? (i := 62) rfl)), List.forall_mem_cons.mpr ⟨(tk_2 _ (List.mem_of_getElem? (i := 63) rfl)), List.forall_mem_cons.mpr ⟨(tk_2 _ (List.mem_of_getElem? (i := 64) rfl)), fun _ h => absurd h List.not_mem_nil⟩⟩⟩⟩⟩⟩⟩⟩⟩⟩⟩⟩⟩⟩⟩⟩⟩⟩⟩⟩⟩⟩⟩⟩
set_option maxRecDepth 100000 in
theorem it_wsL_law_r8 : ∀ w ∈ wsL_law_r8, w ∈ lw_tbl := List.forall_mem_cons.mpr ⟨(tk_2 _ (List.mem_of_getElem? (i := 68) rfl)), List.forall_mem_cons.mpr ⟨(tk_2 _ (List.mem_of_getElem? (i := 65) rfl)), List.forall_mem_cons.mpr ⟨(tk_2 _ (List.mem_of_getElem? (i := 66) rfl)), List.forall_mem_cons.mpr ⟨(tk_2 _ (List.mem_of_getElem? (i := 67) rfl)), List.forall_mem_cons.mpr ⟨(tk_2 _ (List.mem_of_getElem? (i := 71) rfl)), List.forall_mem_cons.mpr ⟨(pk_1 _ (List.mem_of_getElem? (i := 4) rfl)), List.forall_mem_cons.mpr ⟨(tk_2 _ (List.mem_of_getElem? (i := 72) rfl)), List.forall_mem_cons.mpr ⟨(tk_1 _ (List.mem_of_getElem? (i := 67) rfl)), List.forall_mem_cons.mpr ⟨(tk_1 _ (List.mem_of_getElem? (i := 69) rfl)), List.forall_mem_cons.mpr ⟨(tk_4 _ (List.mem_of_getElem? (i := 128) rfl)), List.forall_mem_cons.mpr ⟨(tk_4 _ (List.mem_of_getElem? (i := 129) rfl)), List.forall_mem_cons.mpr ⟨(tk_4 _ (List.mem_of_getElem? (i := 130) rfl)), List.forall_mem_cons.mpr ⟨(tk_4 _ (List.mem_of_getElem? (i := 131) rfl)), List.forall_mem_cons.mpr ⟨(tk_4 _ (List.mem_of_getElem? (i := 132) rfl)), List.forall_mem_cons.mpr ⟨(tk_4 _ (List.mem_of_getElem? (i := 133) rfl)), List.forall_mem_cons.mpr ⟨(tk_4 _ (List.mem_of_getElem? (i := 135) rfl)), List.forall_mem_cons.mpr ⟨(pk_4 _ (List.mem_of_getElem? (i := 13) rfl)), List.forall_mem_cons.mpr ⟨(tk_4 _ (List.mem_of_getElem? (i := 136) rfl)), List.forall_mem_cons.mpr ⟨(tk_2 _ (List.mem_of_getElem? (i := 73) rfl)), List.forall_mem_cons.mpr ⟨(tk_2 _ (List.mem_of_getElem? (i := 74) rfl)), List.forall_mem_cons.mpr ⟨(tk_2 _ (List.mem_of_getElem? (i := 75) rfl)), List.forall_mem_cons.mpr ⟨(tk_2 _ (List.mem_of_getElem? (i := 76) rfl)), List.forall_mem_cons.mpr ⟨(tk_2 _ (List.mem_of_getElem? (i := 77) rfl)), List.forall_mem_cons.mpr ⟨(tk_2 _ (List.mem_of_getElem? (i := 79) rfl)), fun _ h => absurd h List.not_mem_nil⟩⟩⟩⟩⟩⟩⟩⟩⟩⟩⟩⟩⟩⟩⟩⟩⟩⟩⟩⟩⟩⟩⟩⟩
set_option maxRecDepth 100000 in
theorem it_wsL_law_r9 : ∀ w ∈ wsL_law_r9, w ∈ lw_tbl := List.forall_mem_cons.mpr ⟨(pk_1 _ (List.mem_of_getElem? (i := 5) rfl)), List.forall_mem_cons.mpr ⟨(tk_2 _ (List.mem_of_getElem? (i := 80) rfl)), List.forall_mem_cons.mpr ⟨(tk_2 _ (List.mem_of_getElem? (i := 83) rfl)), List.forall_mem_cons.mpr ⟨(pk_1 _ (List.mem_of_getElem? (i := 6) rfl)), List.forall_mem_cons.mpr ⟨(tk_2 _ (List.mem_of_getElem? (i := 84) rfl)), List.forall_mem_cons.mpr ⟨(tk_1 _ (List.mem_of_getElem? (i := 112) rfl)), List.forall_mem_cons.mpr ⟨(tk_2 _ (List.mem_of_getElem? (i := 87) rfl)), List.forall_mem_cons.mpr ⟨(pk_1 _ (List.mem_of_getElem? (i := 7) rfl)), List.forall_mem_cons.mpr ⟨(tk_2 _ (List.mem_of_getElem? (i := 88) rfl)), List.forall_mem_cons.mpr ⟨(tk_2 _ (List.mem_of_getElem? (i := 96) rfl)), List.forall_mem_cons.mpr ⟨(tk_2 _ (List.mem_of_getElem? (i := 97) rfl)), List.forall_mem_cons.mpr ⟨(tk_1 _ (List.mem_of_getElem? (i := 10) rfl)), List.forall_mem_cons.mpr ⟨(tk_2 _ (List.mem_of_getElem? (i := 98) rfl)), List.forall_mem_cons.mpr ⟨(tk_2 _ (List.mem_of_getElem? (i := 99) rfl)), List.forall_mem_cons.mpr ⟨(tk_2 _ (List.mem_of_getElem? (i := 100) rfl)), List.forall_mem_cons.mpr ⟨(tk_2 _ (List.mem_of_getElem? (i := 101) rfl)), List.forall_mem_cons.mpr ⟨(tk_2 _ (List.mem_of_getElem? (i := 89) rfl)), List.forall_mem_cons.mpr ⟨(tk_2 _ (List.mem_of_getElem? (i := 91) rfl)), List.forall_mem_cons.mpr ⟨(pk_1 _ (List.mem_of_getElem? (i := 8) rfl)), List.forall_mem_cons.mpr ⟨(tk_2 _ (List.mem_of_getElem? (i := 92) rfl)), List.forall_mem_cons.mpr ⟨(tk_2 _ (List.mem_of_getElem? (i := 93) rfl)), List.forall_mem_cons.mpr ⟨(tk_2 _ (List.mem_of_getElem? (i := 94) rfl)), List.forall_mem_cons.mpr ⟨(tk_2 _ (List.mem_of_getElem? (i := 95) rfl)), List.forall_mem_cons.mpr ⟨(tk_2 _ (List.mem_of_getElem? (i := 104) rfl)), fun _ h => absurd h List.not_mem_nil⟩⟩⟩⟩⟩⟩⟩⟩⟩⟩⟩⟩⟩⟩⟩⟩⟩⟩⟩⟩⟩⟩⟩⟩
set_option maxRecDepth 100000 in
theorem it_wsL_law_r10 : ∀ w ∈ wsL_law_r10, w ∈ lw_tbl := List.forall_mem_cons.mpr ⟨(pk_1 _ (List.mem_of_getElem? (i := 9) rfl)), List.forall_mem_cons.mpr ⟨(tk_2 _ (List.mem_of_getElem? (i := 105) rfl)), List.forall_mem_cons.mpr ⟨(tk_1 _ (List.mem_of_getElem? (i := 81) rfl)), List.forall_mem_cons.mpr ⟨(tk_2 _ (List.mem_of_getElem? (i := 106) rfl)), List.forall_mem_cons.mpr ⟨(tk_2 _ (List.mem_of_getElem? (i := 109) rfl)), List.forall_mem_cons.mpr ⟨(pk_1 _ (List.mem_of_getElem? (i := 10) rfl)), List.forall_mem_cons.mpr ⟨(tk_2 _ (List.mem_of_getElem? (i := 110) rfl)), List.forall_mem_cons.mpr ⟨(tk_2 _ (List.mem_of_getElem? (i := 113) rfl)), List.forall_mem_cons.mpr ⟨(pk_1 _ (List.mem_of_getElem? (i := 11) rfl)), List.forall_mem_cons.mpr ⟨(tk_2 _ (List.mem_of_getElem? (i := 114) rfl)), List.forall_mem_cons.mpr ⟨(tk_4 _ (List.mem_of_getElem? (i := 137) rfl)), List.forall_mem_cons.mpr ⟨(tk_4 _ (List.mem_of_getElem? (i := 138) rfl)), List.forall_mem_cons.mpr ⟨(tk_4 _ (List.mem_of_getElem? (i := 139) rfl)), List.forall_mem_cons.mpr ⟨(tk_4 _ (List.mem_of_getElem? (i := 140) rfl)), List.forall_mem_cons.mpr ⟨(tk_4 _ (List.mem_of_getElem? (i := 141) rfl)), List.forall_mem_cons.mpr ⟨(tk_4 _ (List.mem_of_getElem? (i := 143) rfl)), List.forall_mem_cons.mpr ⟨(pk_4 _ (List.mem_of_getElem? (i := 14) rfl)), List.forall_mem_cons.mpr ⟨(tk_4 _ (List.mem_of_getElem? (i := 144) rfl)), List.forall_mem_cons.mpr ⟨(tk_4 _ (List.mem_of_getElem? (i := 145) rfl)), List.forall_mem_cons.mpr ⟨(tk_4 _ (List.mem_of_getElem? (i := 147) rfl)), List.forall_mem_cons.mpr ⟨(pk_4 _ (List.mem_of_getElem? (i := 15) rfl)), List.forall_mem_cons.mpr ⟨(tk_4 _ (List.mem_of_getElem? (i := 148) rfl)), List.forall_mem_cons.mpr ⟨(tk_4 _ (List.mem_of_getElem? (i := 149) rfl)), List.forall_mem_cons.mpr ⟨(tk_4 _ (List.mem_of_getElem? (i := 151) rfl)), fun _ h => absurd h List.not_mem_nil⟩⟩⟩⟩⟩⟩⟩⟩⟩⟩⟩⟩⟩⟩⟩⟩⟩⟩⟩⟩⟩⟩⟩⟩
set_option maxRecDepth 100000 in
theorem it_wsL_law_r11 : ∀ w ∈ wsL_law_r11, w ∈ lw_tbl := List.forall_mem_cons.mpr ⟨(pk_5 _ (List.mem_of_getElem? (i := 0) rfl)), List.forall_mem_cons.mpr ⟨(tk_4 _ (List.mem_of_getElem? (i := 152) rfl)), List.forall_mem_cons.mpr ⟨(tk_4 _ (List.mem_of_getElem? (i := 153) rfl)), List.forall_mem_cons.mpr ⟨(tk_4 _ (List.mem_of_getElem? (i := 155) rfl)), List.forall_mem_cons.mpr ⟨(pk_5 _ (List.mem_of_getElem? (i := 1) rfl)), List.forall_mem_cons.mpr ⟨(tk_4 _ (List.mem_of_getElem? (i := 156) rfl)), List.forall_mem_cons.mpr ⟨(tk_4 _ (List.mem_of_getElem? (i := 157) rfl)), List.forall_mem_cons.mpr ⟨(tk_4 _ (List.mem_of_getElem? (i := 158) rfl)), List.forall_mem_cons.mpr ⟨(tk_4 _ (List.mem_of_getElem? (i := 159) rfl)), List.forall_mem_cons.mpr ⟨(tk_4 _ (List.mem_of_getElem? (i := 160) rfl)), List.forall_mem_cons.mpr ⟨(tk_4 _ (List.mem_of_getElem? (i := 161) rfl)), List.forall_mem_cons.mpr ⟨(tk_4 _ (List.mem_of_getElem? (i := 162) rfl)), List.forall_mem_cons.mpr ⟨(tk_4 _ (List.mem_of_getElem? (i := 163) rfl)), List.forall_mem_cons.mpr ⟨(tk_4 _ (List.mem_of_getElem? (i := 165) rfl)), List.forall_mem_cons.mpr ⟨(pk_5 _ (List.mem_of_getElem? (i := 2) rfl)), List.forall_mem_cons.mpr ⟨(tk_4 _ (List.mem_of_getElem? (i := 166) rfl)), List.forall_mem_cons.mpr ⟨(tk_4 _ (List.mem_of_getElem? (i := 167) rfl)), List.forall_mem_cons.mpr ⟨(tk_4 _ (List.mem_of_getElem? (i := 169) rfl)), List.forall_mem_cons.mpr ⟨(pk_5 _ (List.mem_of_getElem? (i := 3) rfl)), List.forall_mem_cons.mpr ⟨(tk_4 _ (List.mem_of_getElem? (i := 170) rfl)), List.forall_mem_cons.mpr ⟨(tk_2 _ (List.mem_of_getElem? (i := 115) rfl)), List.forall_mem_cons.mpr ⟨(tk_2 _ (List.mem_of_getElem? (i := 116) rfl)), List.forall_mem_cons.mpr ⟨(tk_2 _ (List.mem_of_getElem? (i := 117) rfl)), List.forall_mem_cons.mpr ⟨(tk_2 _ (List.mem_of_getElem? (i := 118) rfl)), fun _ h => absurd h List.not_mem_nil⟩⟩⟩⟩⟩⟩⟩⟩⟩⟩⟩⟩⟩⟩⟩⟩⟩⟩⟩⟩⟩⟩⟩⟩
set_option maxRecDepth 100000 in
theorem it_wsL_law_r12 : ∀ w ∈ wsL_law_r12, w ∈ lw_tbl := List.forall_mem_cons.mpr ⟨(tk_2 _ (List.mem_of_getElem? (i := 119) rfl)), List.forall_mem_cons.mpr ⟨(tk_2 _ (List.mem_of_getElem? (i := 120) rfl)), List.forall_mem_cons.mpr ⟨(tk_2 _ (List.mem_of_getElem? (i := 121) rfl)), List.forall_mem_cons.mpr ⟨(tk_2 _ (List.mem_of_getElem? (i := 124) rfl)), List.forall_mem_cons.mpr ⟨(pk_1 _ (List.mem_of_getElem? (i := 12) rfl)), List.forall_mem_cons.mpr ⟨(tk_2 _ (List.mem_of_getElem? (i := 125) rfl)), List.forall_mem_cons.mpr ⟨(tk_1 _ (List.mem_of_getElem? (i := 72) rfl)), List.forall_mem_cons.mpr ⟨(tk_1 _ (List.mem_of_getElem? (i := 75) rfl)), List.forall_mem_cons.mpr ⟨(tk_1 _ (List.mem_of_getElem? (i := 84) rfl)), List.forall_mem_cons.mpr ⟨(tk_4 _ (List.mem_of_getElem? (i := 171) rfl)), List.forall_mem_cons.mpr ⟨(tk_4 _ (List.mem_of_getElem? (i := 172) rfl)), List.forall_mem_cons.mpr ⟨(tk_4 _ (List.mem_of_getElem? (i := 173) rfl)), List.forall_mem_cons.mpr ⟨(tk_4 _ (List.mem_of_getElem? (i := 174) rfl)), List.forall_mem_cons.mpr ⟨(tk_2 _ (List.mem_of_getElem? (i := 126) rfl)), List.forall_mem_cons.mpr ⟨(tk_2 _ (List.mem_of_getElem? (i := 127) rfl)), List.forall_mem_cons.mpr ⟨(tk_2 _ (List.mem_of_getElem? (i := 128) rfl)), List.forall_mem_cons.mpr ⟨(tk_2 _ (List.mem_of_getElem? (i := 129) rfl)), List.forall_mem_cons.mpr ⟨(tk_4 _ (List.mem_of_getElem? (i := 175) rfl)), List.forall_mem_cons.mpr ⟨(tk_4 _ (List.mem_of_getElem? (i := 176) rfl)), List.forall_mem_cons.mpr ⟨(tk_4 _ (List.mem_of_getElem? (i := 177) rfl)), List.forall_mem_cons.mpr ⟨(tk_4 _ (List.mem_of_getElem? (i := 178) rfl)), List.forall_mem_cons.mpr ⟨(tk_2 _ (List.mem_of_getElem? (i := 130) rfl)), List.forall_mem_cons.mpr ⟨(tk_2 _ (List.mem_of_getElem? (i := 131) rfl)), List.forall_mem_cons.mpr ⟨(tk_2 _ (List.mem_of_getElem? (i := 132) rfl)), fun _ h => absurd h List.not_mem_nil⟩⟩⟩⟩⟩⟩⟩⟩⟩⟩⟩⟩⟩⟩⟩⟩⟩⟩⟩⟩⟩⟩⟩⟩
set_option maxRecDepth 100000 in
theorem it_wsL_law_r13 : ∀ w ∈ wsL_law_r13, w ∈ lw_tbl := List.forall_mem_cons.mpr ⟨(tk_2 _ (List.mem_of_getElem? (i := 133) rfl)), List.forall_mem_cons.mpr ⟨(tk_2 _ (List.mem_of_getElem? (i := 140) rfl)), List.forall_mem_cons.mpr ⟨(tk_2 _ (List.mem_of_getElem? (i := 136) rfl)), List.forall_mem_cons.mpr ⟨(pk_1 _ (List.mem_of_getElem? (i := 13) rfl)), List.forall_mem_cons.mpr ⟨(tk_2 _ (List.mem_of_getElem? (i := 137) rfl)), List.forall_mem_cons.mpr ⟨(tk_4 _ (List.mem_of_getElem? (i := 179) rfl)), List.forall_mem_cons.mpr ⟨(tk_4 _ (List.mem_of_getElem? (i := 180) rfl)), List.forall_mem_cons.mpr ⟨(tk_4 _ (List.mem_of_getElem? (i := 181) rfl)), List.forall_mem_cons.mpr ⟨(tk_4 _ (List.mem_of_getElem? (i := 182) rfl)), List.forall_mem_cons.mpr ⟨(tk_4 _ (List.mem_of_getElem? (i := 186) rfl)), List.forall_mem_cons.mpr ⟨(tk_4 _ (List.mem_of_getElem? (i := 183) rfl)), List.forall_mem_cons.mpr ⟨(tk_4 _ (List.mem_of_getElem? (i := 184) rfl)), List.forall_mem_cons.mpr ⟨(tk_4 _ (List.mem_of_getElem? (i := 185) rfl)), List.forall_mem_cons.mpr ⟨(tk_2 _ (List.mem_of_getElem? (i := 141) rfl)), List.forall_mem_cons.mpr ⟨(tk_2 _ (List.mem_of_getElem? (i := 142) rfl)), List.forall_mem_cons.mpr ⟨(tk_2 _ (List.mem_of_getElem? (i := 143) rfl)), List.forall_mem_cons.mpr ⟨(tk_2 _ (List.mem_of_getElem? (i := 144) rfl)), List.forall_mem_cons.mpr ⟨(tk_4 _ (List.mem_of_getElem? (i := 191) rfl)), List.forall_mem_cons.mpr ⟨(tk_4 _ (List.mem_of_getElem? (i := 192) rfl)), List.forall_mem_cons.mpr ⟨(tk_4 _ (List.mem_of_getElem? (i := 193) rfl)), List.forall_mem_cons.mpr ⟨(tk_4 _ (List.mem_of_getElem? (i := 194) rfl)), List.forall_mem_cons.mpr ⟨(tk_4 _ (List.mem_of_getElem? (i := 195) rfl)), List.forall_mem_cons.mpr ⟨(tk_2 _ (List.mem_of_getElem? (i := 145) rfl)), List.forall_mem_cons.mpr ⟨(tk_2 _ (List.mem_of_getElem? (i := 146) rfl)), fun _ h => absurd h List.not_mem_nil⟩⟩⟩⟩⟩⟩⟩⟩⟩⟩⟩⟩⟩⟩⟩⟩⟩⟩⟩⟩⟩⟩⟩⟩
set_option maxRecDepth 100000 in
theorem it_wsL_law_r14 : ∀ w ∈ wsL_law_r14, w ∈ lw_tbl := List.forall_mem_cons.mpr ⟨(tk_2 _ (List.mem_of_getElem? (i := 147) rfl)), List.forall_mem_cons.mpr ⟨(tk_2 _ (List.mem_of_getElem? (i := 148) rfl)), List.forall_mem_cons.mpr ⟨(tk_2 _ (List.mem_of_getElem? (i := 151) rfl)), List.forall_mem_cons.mpr ⟨(pk_1 _ (List.mem_of_getElem? (i := 14) rfl)), List.forall_mem_cons.mpr ⟨(tk_2 _ (List.mem_of_getElem? (i := 152) rfl)), List.forall_mem_cons.mpr ⟨(tk_2 _ (List.mem_of_getElem? (i := 153) rfl)), List.forall_mem_cons.mpr ⟨(tk_1 _ (List.mem_of_getElem? (i := 187) rfl)), List.forall_mem_cons.mpr ⟨(tk_2 _ (List.mem_of_getElem? (i := 154) rfl)), List.forall_mem_cons.mpr ⟨(tk_2 _ (List.mem_of_getElem? (i := 156) rfl)), List.forall_mem_cons.mpr ⟨(tk_2 _ (List.mem_of_getElem? (i := 155) rfl)), List.forall_mem_cons.mpr ⟨(tk_1 _ (List.mem_of_getElem? (i := 11) rfl)), List.forall_mem_cons.mpr ⟨(tk_1 _ (List.mem_of_getElem? (i := 188) rfl)), List.forall_mem_cons.mpr ⟨(tk_1 _ (List.mem_of_getElem? (i := 189) rfl)), List.forall_mem_cons.mpr ⟨(tk_2 _ (List.mem_of_getElem? (i := 158) rfl)), List.forall_mem_cons.mpr ⟨(tk_2 _ (List.mem_of_getElem? (i := 160) rfl)), List.forall_mem_cons.mpr ⟨(pk_1 _ (List.mem_of_getElem? (i := 15) rfl)), List.forall_mem_cons.mpr ⟨(tk_2 _ (List.mem_of_getElem? (i := 161) rfl)), List.forall_mem_cons.mpr ⟨(tk_2 _ (List.mem_of_getElem? (i := 162) rfl)), List.forall_mem_cons.mpr ⟨(tk_2 _ (List.mem_of_getElem? (i := 164) rfl)), List.forall_mem_cons.mpr ⟨(pk_2 _ (List.mem_of_getElem? (i := 0) rfl)), List.forall_mem_cons.mpr ⟨(tk_2 _ (List.mem_of_getElem? (i := 166) rfl)), List.forall_mem_cons.mpr ⟨(tk_2 _ (List.mem_of_getElem? (i := 168) rfl)), List.forall_mem_cons.mpr ⟨(pk_2 _ (List.mem_of_getElem? (i := 1) rfl)), List.forall_mem_cons.mpr ⟨(tk_2 _ (List.mem_of_getElem? (i := 169) rfl)), fun _ h => absurd h List.not_mem_nil⟩⟩⟩⟩⟩⟩⟩⟩⟩⟩⟩⟩⟩⟩⟩⟩⟩⟩⟩⟩⟩⟩⟩⟩
set_option maxRecDepth 100000 in
theorem it_wsL_law_r15 : ∀ w ∈ wsL_law_r15, w ∈ lw_tbl := List.forall_mem_cons.mpr ⟨(tk_2 _ (List.mem_of_getElem? (i := 198) rfl)), List.forall_mem_cons.mpr ⟨(tk_2 _ (List.mem_of_getElem? (i := 199) rfl)), List.forall_mem_cons.mpr ⟨(tk_2 _ (List.mem_of_getElem? (i := 200) rfl)), List.forall_mem_cons.mpr ⟨(tk_2 _ (List.mem_of_getElem? (i := 180) rfl)), List.forall_mem_cons.mpr ⟨(pk_2 _ (List.mem_of_getElem? (i := 3) rfl)), List.forall_mem_cons.mpr ⟨(tk_2 _ (List.mem_of_getElem? (i := 181) rfl)), List.forall_mem_cons.mpr ⟨(tk_2 _ (List.mem_of_getElem? (i := 193) rfl)), List.forall_mem_cons.mpr ⟨(tk_2 _ (List.mem_of_getElem? (i := 194) rfl)), List.forall_mem_cons.mpr ⟨(tk_2 _ (List.mem_of_getElem? (i := 196) rfl)), List.forall_mem_cons.mpr ⟨(pk_2 _ (List.mem_of_getElem? (i := 7) rfl)), List.forall_mem_cons.mpr ⟨(tk_2 _ (List.mem_of_getElem? (i := 197) rfl)), List.forall_mem_cons.mpr ⟨(tk_2 _ (List.mem_of_getElem? (i := 165) rfl)), List.forall_mem_cons.mpr ⟨(tk_2 _ (List.mem_of_getElem? (i := 170) rfl)), List.forall_mem_cons.mpr ⟨(tk_2 _ (List.mem_of_getElem? (i := 171) rfl)), List.forall_mem_cons.mpr ⟨(tk_2 _ (List.mem_of_getElem? (i := 172) rfl)), List.forall_mem_cons.mpr ⟨(tk_2 _ (List.mem_of_getElem? (i := 174) rfl)), List.forall_mem_cons.mpr ⟨(tk_2 _ (List.mem_of_getElem? (i := 176) rfl)), List.forall_mem_cons.mpr ⟨(pk_2 _ (List.mem_of_getElem? (i := 2) rfl)), List.forall_mem_cons.mpr ⟨(tk_2 _ (List.mem_of_getElem? (i := 177) rfl)), List.forall_mem_cons.mpr ⟨(tk_2 _ (List.mem_of_getElem? (i := 182) rfl)), List.forall_mem_cons.mpr ⟨(tk_2 _ (List.mem_of_getElem? (i := 184) rfl)), List.forall_mem_cons.mpr ⟨(pk_2 _ (List.mem_of_getElem? (i := 4) rfl)), List.forall_mem_cons.mpr ⟨(tk_2 _ (List.mem_of_getElem? (i := 185) rfl)), List.forall_mem_cons.mpr ⟨(tk_2 _ (List.mem_of_getElem? (i := 186) rfl)), fun _ h => absurd h List.not_mem_nil⟩⟩⟩⟩⟩⟩⟩⟩⟩⟩⟩⟩⟩⟩⟩⟩⟩⟩⟩⟩⟩⟩⟩⟩
set_option maxRecDepth 100000 in
theorem it_wsL_law_r16 : ∀ w ∈ wsL_law_r16, w ∈ lw_tbl := List.forall_mem_cons.mpr ⟨(tk_2 _ (List.mem_of_getElem? (i := 188) rfl)), List.forall_mem_cons.mpr ⟨(pk_2 _ (List.mem_of_getElem? (i := 5) rfl)), List.forall_mem_cons.mpr ⟨(tk_2 _ (List.mem_of_getElem? (i := 190) rfl)), List.forall_mem_cons.mpr ⟨(tk_2 _ (List.mem_of_getElem? (i := 192) rfl)), List.forall_mem_cons.mpr ⟨(pk_2 _ (List.mem_of_getElem? (i := 6) rfl)), List.forall_mem_cons.mpr ⟨(tk_2 _ (List.mem_of_getElem? (i := 189) rfl)), List.forall_mem_cons.mpr ⟨(tk_2 _ (List.mem_of_getElem? (i := 203) rfl)), List.forall_mem_cons.mpr ⟨(pk_2 _ (List.mem_of_getElem? (i := 8) rfl)), List.forall_mem_cons.mpr ⟨(tk_2 _ (List.mem_of_getElem? (i := 204) rfl)), List.forall_mem_cons.mpr ⟨(tk_2 _ (List.mem_of_getElem? (i := 207) rfl)), List.forall_mem_cons.mpr ⟨(pk_2 _ (List.mem_of_getElem? (i := 9) rfl)), List.forall_mem_cons.mpr ⟨(tk_2 _ (List.mem_of_getElem? (i := 208) rfl)), List.forall_mem_cons.mpr ⟨(tk_2 _ (List.mem_of_getElem? (i := 209) rfl)), List.forall_mem_cons.mpr ⟨(tk_4 _ (List.mem_of_getElem? (i := 196) rfl)), List.forall_mem_cons.mpr ⟨(tk_4 _ (List.mem_of_getElem? (i := 197) rfl)), List.forall_mem_cons.mpr ⟨(tk_4 _ (List.mem_of_getElem? (i := 198) rfl)), List.forall_mem_cons.mpr ⟨(tk_4 _ (List.mem_of_getElem? (i := 199) rfl)), List.forall_mem_cons.mpr ⟨(tk_4 _ (List.mem_of_getElem? (i := 32) rfl)), List.forall_mem_cons.mpr ⟨(tk_4 _ (List.mem_of_getElem? (i := 33) rfl)), List.forall_mem_cons.mpr ⟨(tk_4 _ (List.mem_of_getElem? (i := 34) rfl)), List.forall_mem_cons.mpr ⟨(tk_4 _ (List.mem_of_getElem? (i := 35) rfl)), List.forall_mem_cons.mpr ⟨(tk_4 _ (List.mem_of_getElem? (i := 36) rfl)), List.forall_mem_cons.mpr ⟨(tk_4 _ (List.mem_of_getElem? (i := 37) rfl)), List.forall_mem_cons.mpr ⟨(tk_4 _ (List.mem_of_getElem? (i := 200) rfl)), fun _ h => absurd h List.not_mem_nil⟩⟩⟩⟩⟩⟩⟩⟩⟩⟩⟩⟩⟩⟩⟩⟩⟩⟩⟩⟩⟩⟩⟩⟩
set_option maxRecDepth 100000 in
theorem it_wsL_law_r17 : ∀ w ∈ wsL_law_r17, w ∈ lw_tbl := List.forall_mem_cons.mpr ⟨(tk_4 _ (List.mem_of_getElem? (i := 202) rfl)), List.forall_mem_cons.mpr ⟨(pk_5 _ (List.mem_of_getElem? (i := 4) rfl)), List.forall_mem_cons.mpr ⟨(tk_4 _ (List.mem_of_getElem? (i := 203) rfl)), List.forall_mem_cons.mpr ⟨(tk_4 _ (List.mem_of_getElem? (i := 204) rfl)), List.forall_mem_cons.mpr ⟨(tk_4 _ (List.mem_of_getElem? (i := 206) rfl)), List.forall_mem_cons.mpr ⟨(pk_5 _ (List.mem_of_getElem? (i := 5) rfl)), List.forall_mem_cons.mpr ⟨(tk_4 _ (List.mem_of_getElem? (i := 224) rfl)), List.forall_mem_cons.mpr ⟨(tk_4 _ (List.mem_of_getElem? (i := 226) rfl)), List.forall_mem_cons.mpr ⟨(pk_5 _ (List.mem_of_getElem? (i := 10) rfl)), List.forall_mem_cons.mpr ⟨(tk_4 _ (List.mem_of_getElem? (i := 227) rfl)), List.forall_mem_cons.mpr ⟨(tk_4 _ (List.mem_of_getElem? (i := 235) rfl)), List.forall_mem_cons.mpr ⟨(tk_4 _ (List.mem_of_getElem? (i := 237) rfl)), List.forall_mem_cons.mpr ⟨(pk_5 _ (List.mem_of_getElem? (i := 12) rfl)), List.forall_mem_cons.mpr ⟨(tk_4 _ (List.mem_of_getElem? (i := 238) rfl)), List.forall_mem_cons.mpr ⟨(tk_4 _ (List.mem_of_getElem? (i := 207) rfl)), List.forall_mem_cons.mpr ⟨(tk_4 _ (List.mem_of_getElem? (i := 208) rfl)), List.forall_mem_cons.mpr ⟨(tk_4 _ (List.mem_of_getElem? (i := 210) rfl)), List.forall_mem_cons.mpr ⟨(pk_5 _ (List.mem_of_getElem? (i := 6) rfl)), List.forall_mem_cons.mpr ⟨(tk_4 _ (List.mem_of_getElem? (i := 211) rfl)), List.forall_mem_cons.mpr ⟨(tk_4 _ (List.mem_of_getElem? (i := 212) rfl)), List.forall_mem_cons.mpr ⟨(tk_4 _ (List.mem_of_getElem? (i := 214) rfl)), List.forall_mem_cons.mpr ⟨(pk_5 _ (List.mem_of_getElem? (i := 7) rfl)), List.forall_mem_cons.mpr ⟨(tk_4 _ (List.mem_of_getElem? (i := 223) rfl)), List.forall_mem_cons.mpr ⟨(tk_4 _ (List.mem_of_getElem? (i := 228) rfl)), fun _ h => absurd h List.not_mem_nil⟩⟩⟩⟩⟩⟩⟩⟩⟩⟩⟩⟩⟩⟩⟩⟩⟩⟩⟩⟩⟩⟩⟩⟩
set_option maxRecDepth 100000 in
theorem it_wsL_law_r18 : ∀ w ∈ wsL_law_r18, w ∈ lw_tbl := List.forall_mem_cons.mpr ⟨(tk_4 _ (List.mem_of_getElem? (i := 229) rfl)), List.forall_mem_cons.mpr ⟨(tk_4 _ (List.mem_of_getElem? (i := 230) rfl)), List.forall_mem_cons.mpr ⟨(tk_4 _ (List.mem_of_getElem? (i := 231) rfl)), List.forall_mem_cons.mpr ⟨(tk_4 _ (List.mem_of_getElem? (i := 233) rfl)), List.forall_mem_cons.mpr ⟨(pk_5 _ (List.mem_of_getElem? (i := 11) rfl)), List.forall_mem_cons.mpr ⟨(tk_4 _ (List.mem_of_getElem? (i := 234) rfl)), List.forall_mem_cons.mpr ⟨(tk_4 _ (List.mem_of_getElem? (i := 239) rfl)), List.forall_mem_cons.mpr ⟨(tk_5 _ (List.mem_of_getElem? (i := 1) rfl)), List.forall_mem_cons.mpr ⟨(pk_5 _ (List.mem_of_getElem? (i := 13) rfl)), List.forall_mem_cons.mpr ⟨(tk_5 _ (List.mem_of_getElem? (i := 2) rfl)), List.forall_mem_cons.mpr ⟨(tk_4 _ (List.mem_of_getElem? (i := 220) rfl)), List.forall_mem_cons.mpr ⟨(tk_4 _ (List.mem_of_getElem? (i := 222) rfl)), List.forall_mem_cons.mpr ⟨(pk_5 _ (List.mem_of_getElem? (i := 9) rfl)), List.forall_mem_cons.mpr ⟨(tk_4 _ (List.mem_of_getElem? (i := 219) rfl)), List.forall_mem_cons.mpr ⟨(tk_4 _ (List.mem_of_getElem? (i := 215) rfl)), List.forall_mem_cons.mpr ⟨(tk_4 _ (List.mem_of_getElem? (i := 216) rfl)), List.forall_mem_cons.mpr ⟨(tk_4 _ (List.mem_of_getElem? (i := 218) rfl)), List.forall_mem_cons.mpr ⟨(pk_5 _ (List.mem_of_getElem? (i := 8) rfl)), List.forall_mem_cons.mpr ⟨(tk_2 _ (List.mem_of_getElem? (i := 210) rfl)), List.forall_mem_cons.mpr ⟨(tk_2 _ (List.mem_of_getElem? (i := 211) rfl)), List.forall_mem_cons.mpr ⟨(tk_2 _ (List.mem_of_getElem? (i := 212) rfl)), List.forall_mem_cons.mpr ⟨(tk_2 _ (List.mem_of_getElem? (i := 213) rfl)), List.forall_mem_cons.mpr ⟨(tk_4 _ (List.mem_of_getElem? (i := 187) rfl)), List.forall_mem_cons.mpr ⟨(tk_4 _ (List.mem_of_getElem? (i := 188) rfl)), fun _ h => absurd h List.not_mem_nil⟩⟩⟩⟩⟩⟩⟩⟩⟩⟩⟩⟩⟩⟩⟩⟩⟩⟩⟩⟩⟩⟩⟩⟩
set_option maxRecDepth 100000 in
theorem it_wsL_law_r19 : ∀ w ∈ wsL_law_r19, w ∈ lw_tbl := List.forall_mem_cons.mpr ⟨(tk_4 _ (List.mem_of_getElem? (i := 189) rfl)), List.forall_mem_cons.mpr ⟨(tk_4 _ (List.mem_of_getElem? (i := 190) rfl)), List.forall_mem_cons.mpr ⟨(tk_2 _ (List.mem_of_getElem? (i := 215) rfl)), List.forall_mem_cons.mpr ⟨(tk_2 _ (List.mem_of_getElem? (i := 216) rfl)), List.forall_mem_cons.mpr ⟨(tk_2 _ (List.mem_of_getElem? (i := 217) rfl)), List.forall_mem_cons.mpr ⟨(tk_2 _ (List.mem_of_getElem? (i := 218) rfl)), List.forall_mem_cons.mpr ⟨(tk_2 _ (List.mem_of_getElem? (i := 219) rfl)), List.forall_mem_cons.mpr ⟨(tk_2 _ (List.mem_of_getElem? (i := 222) rfl)), List.forall_mem_cons.mpr ⟨(pk_2 _ (List.mem_of_getElem? (i := 10) rfl)), List.forall_mem_cons.mpr ⟨(tk_2 _ (List.mem_of_getElem? (i := 223) rfl)), List.forall_mem_cons.mpr ⟨(tk_2 _ (List.mem_of_getElem? (i := 224) rfl)), List.forall_mem_cons.mpr ⟨(tk_2 _ (List.mem_of_getElem? (i := 226) rfl)), List.forall_mem_cons.mpr ⟨(pk_2 _ (List.mem_of_getElem? (i := 11) rfl)), List.forall_mem_cons.mpr ⟨(tk_2 _ (List.mem_of_getElem? (i := 227) rfl)), List.forall_mem_cons.mpr ⟨(tk_2 _ (List.mem_of_getElem? (i := 229) rfl)), List.forall_mem_cons.mpr ⟨(tk_2 _ (List.mem_of_getElem? (i := 230) rfl)), List.forall_mem_cons.mpr ⟨(tk_2 _ (List.mem_of_getElem? (i := 228) rfl)), List.forall_mem_cons.mpr ⟨(tk_2 _ (List.mem_of_getElem? (i := 231) rfl)), List.forall_mem_cons.mpr ⟨(tk_2 _ (List.mem_of_getElem? (i := 233) rfl)), List.forall_mem_cons.mpr ⟨(pk_2 _ (List.mem_of_getElem? (i := 12) rfl)), List.forall_mem_cons.mpr ⟨(tk_2 _ (List.mem_of_getElem? (i := 234) rfl)), List.forall_mem_cons.mpr ⟨(tk_2 _ (List.mem_of_getElem? (i := 235) rfl)), List.forall_mem_cons.mpr ⟨(tk_2 _ (List.mem_of_getElem? (i := 237) rfl)), List.forall_mem_cons.mpr ⟨(pk_2 _ (List.mem_of_getElem? (i := 13) rfl)), fun _ h => absurd h List.not_mem_nil⟩⟩⟩⟩⟩⟩⟩⟩⟩⟩⟩⟩⟩⟩⟩⟩⟩⟩⟩⟩⟩⟩⟩⟩
set_option maxRecDepth 100000 in
theorem it_wsL_law_r20 : ∀ w ∈ wsL_law_r20, w ∈ lw_tbl := List.forall_mem_cons.mpr ⟨(tk_2 _ (List.mem_of_getElem? (i := 238) rfl)), List.forall_mem_cons.mpr ⟨(tk_3 _ (List.mem_of_getElem? (i := 6) rfl)), List.forall_mem_cons.mpr ⟨(tk_3 _ (List.mem_of_getElem? (i := 0) rfl)), List.forall_mem_cons.mpr ⟨(tk_3 _ (List.mem_of_getElem? (i := 2) rfl)), List.forall_mem_cons.mpr ⟨(pk_2 _ (List.mem_of_getElem? (i := 14) rfl)), List.forall_mem_cons.mpr ⟨(tk_3 _ (List.mem_of_getElem? (i := 3) rfl)), List.forall_mem_cons.mpr ⟨(tk_3 _ (List.mem_of_getElem? (i := 9) rfl)), List.forall_mem_cons.mpr ⟨(pk_2 _ (List.mem_of_getElem? (i := 15) rfl)), List.forall_mem_cons.mpr ⟨(tk_3 _ (List.mem_of_getElem? (i := 10) rfl)), List.forall_mem_cons.mpr ⟨(tk_3 _ (List.mem_of_getElem? (i := 11) rfl)), List.forall_mem_cons.mpr ⟨(tk_3 _ (List.mem_of_getElem? (i := 13) rfl)), List.forall_mem_cons.mpr ⟨(pk_3 _ (List.mem_of_getElem? (i := 0) rfl)), List.forall_mem_cons.mpr ⟨(tk_3 _ (List.mem_of_getElem? (i := 14) rfl)), List.forall_mem_cons.mpr ⟨(tk_3 _ (List.mem_of_getElem? (i := 15) rfl)), List.forall_mem_cons.mpr ⟨(tk_3 _ (List.mem_of_getElem? (i := 16) rfl)), List.forall_mem_cons.mpr ⟨(tk_1 _ (List.mem_of_getElem? (i := 12) rfl)), List.forall_mem_cons.mpr ⟨(tk_3 _ (List.mem_of_getElem? (i := 17) rfl)), List.forall_mem_cons.mpr ⟨(tk_3 _ (List.mem_of_getElem? (i := 18) rfl)), List.forall_mem_cons.mpr ⟨(tk_3 _ (List.mem_of_getElem? (i := 19) rfl)), List.forall_mem_cons.mpr ⟨(tk_3 _ (List.mem_of_getElem? (i := 20) rfl)), List.forall_mem_cons.mpr ⟨(tk_5 _ (List.mem_of_getElem? (i := 3) rfl)), List.forall_mem_cons.mpr ⟨(tk_5 _ (List.mem_of_getElem? (i := 4) rfl)), List.forall_mem_cons.mpr ⟨(tk_5 _ (List.mem_of_getElem? (i := 5) rfl)), List.forall_mem_cons.mpr ⟨(tk_5 _ (List.mem_of_getElem? (i := 6) rfl)), fun _ h => absurd h List.not_mem_nil⟩⟩⟩⟩⟩⟩⟩⟩⟩⟩⟩⟩⟩⟩⟩⟩⟩⟩⟩⟩⟩⟩⟩⟩
set_option maxRecDepth 100000 in
theorem it_wsL_law_r21 : ∀ w ∈ wsL_law_r21, w ∈ lw_tbl := List.forall_mem_cons.mpr ⟨(tk_5 _ (List.mem_of_getElem? (i := 7) rfl)), List.forall_mem_cons.mpr ⟨(tk_5 _ (List.mem_of_getElem? (i := 8) rfl)), List.forall_mem_cons.mpr ⟨(tk_5 _ (List.mem_of_getElem? (i := 10) rfl)), List.forall_mem_cons.mpr ⟨(pk_5 _ (List.mem_of_getElem? (i := 14) rfl)), List.forall_mem_cons.mpr ⟨(tk_5 _ (List.mem_of_getElem? (i := 11) rfl)), List.forall_mem_cons.mpr ⟨(tk_5 _ (List.mem_of_getElem? (i := 12) rfl)), List.forall_mem_cons.mpr ⟨(tk_5 _ (List.mem_of_getElem? (i := 14) rfl)), List.forall_mem_cons.mpr ⟨(pk_5 _ (List.mem_of_getElem? (i := 15) rfl)), List.forall_mem_cons.mpr ⟨(tk_5 _ (List.mem_of_getElem? (i := 15) rfl)), List.forall_mem_cons.mpr ⟨(tk_5 _ (List.mem_of_getElem? (i := 16) rfl)), List.forall_mem_cons.mpr ⟨(tk_5 _ (List.mem_of_getElem? (i := 18) rfl)), List.forall_mem_cons.mpr ⟨(pk_6 _ (List.mem_of_getElem? (i := 0) rfl)), List.forall_mem_cons.mpr ⟨(tk_5 _ (List.mem_of_getElem? (i := 19) rfl)), List.forall_mem_cons.mpr ⟨(tk_5 _ (List.mem_of_getElem? (i := 20) rfl)), List.forall_mem_cons.mpr ⟨(tk_5 _ (List.mem_of_getElem? (i := 22) rfl)), List.forall_mem_cons.mpr ⟨(pk_6 _ (List.mem_of_getElem? (i := 1) rfl)), List.forall_mem_cons.mpr ⟨(tk_5 _ (List.mem_of_getElem? (i := 23) rfl)), List.forall_mem_cons.mpr ⟨(tk_5 _ (List.mem_of_getElem? (i := 24) rfl)), List.forall_mem_cons.mpr ⟨(tk_5 _ (List.mem_of_getElem? (i := 26) rfl)), List.forall_mem_cons.mpr ⟨(pk_6 _ (List.mem_of_getElem? (i := 2) rfl)), List.forall_mem_cons.mpr ⟨(tk_5 _ (List.mem_of_getElem? (i := 27) rfl)), List.forall_mem_cons.mpr ⟨(tk_5 _ (List.mem_of_getElem? (i := 28) rfl)), List.forall_mem_cons.mpr ⟨(tk_5 _ (List.mem_of_getElem? (i := 30) rfl)), List.forall_mem_cons.mpr ⟨(pk_6 _ (List.mem_of_getElem? (i := 3) rfl)), fun _ h => absurd h List.not_mem_nil⟩⟩⟩⟩⟩⟩⟩⟩⟩⟩⟩⟩⟩⟩⟩⟩⟩⟩⟩⟩⟩⟩⟩⟩
set_option maxRecDepth 100000 in
theorem it_wsL_law_r22 : ∀ w ∈ wsL_law_r22, w ∈ lw_tbl := List.forall_mem_cons.mpr ⟨(tk_5 _ (List.mem_of_getElem? (i := 31) rfl)), List.forall_mem_cons.mpr ⟨(tk_5 _ (List.mem_of_getElem? (i := 32) rfl)), List.forall_mem_cons.mpr ⟨(tk_5 _ (List.mem_of_getElem? (i := 34) rfl)), List.forall_mem_cons.mpr ⟨(pk_6 _ (List.mem_of_getElem? (i := 4) rfl)), List.forall_mem_cons.mpr ⟨(tk_5 _ (List.mem_of_getElem? (i := 35) rfl)), List.forall_mem_cons.mpr ⟨(tk_5 _ (List.mem_of_getElem? (i := 36) rfl)), List.forall_mem_cons.mpr ⟨(tk_5 _ (List.mem_of_getElem? (i := 37) rfl)), List.forall_mem_cons.mpr ⟨(tk_5 _ (List.mem_of_getElem? (i := 38) rfl)), List.forall_mem_cons.mpr ⟨(tk_3 _ (List.mem_of_getElem? (i := 21) rfl)), List.forall_mem_cons.mpr ⟨(tk_3 _ (List.mem_of_getElem? (i := 22) rfl)), List.forall_mem_cons.mpr ⟨(tk_3 _ (List.mem_of_getElem? (i := 23) rfl)), List.forall_mem_cons.mpr ⟨(tk_3 _ (List.mem_of_getElem? (i := 24) rfl)), List.forall_mem_cons.mpr ⟨(tk_3 _ (List.mem_of_getElem? (i := 27) rfl)), List.forall_mem_cons.mpr ⟨(pk_3 _ (List.mem_of_getElem? (i := 1) rfl)), List.forall_mem_cons.mpr ⟨(tk_3 _ (List.mem_of_getElem? (i := 28) rfl)), List.forall_mem_cons.mpr ⟨(tk_3 _ (List.mem_of_getElem? (i := 29) rfl)), List.forall_mem_cons.mpr ⟨(tk_5 _ (List.mem_of_getElem? (i := 39) rfl)), List.forall_mem_cons.mpr ⟨(tk_5 _ (List.mem_of_getElem? (i := 40) rfl)), List.forall_mem_cons.mpr ⟨(tk_5 _ (List.mem_of_getElem? (i := 41) rfl)), List.forall_mem_cons.mpr ⟨(tk_5 _ (List.mem_of_getElem? (i := 42) rfl)), List.forall_mem_cons.mpr ⟨(tk_5 _ (List.mem_of_getElem? (i := 43) rfl)), List.forall_mem_cons.mpr ⟨(tk_5 _ (List.mem_of_getElem? (i := 45) rfl)), List.forall_mem_cons.mpr ⟨(pk_6 _ (List.mem_of_getElem? (i := 5) rfl)), List.forall_mem_cons.mpr ⟨(tk_5 _ (List.mem_of_getElem? (i := 46) rfl)), fun _ h => absurd h List.not_mem_nil⟩⟩⟩⟩⟩⟩⟩⟩⟩⟩⟩⟩⟩⟩⟩⟩⟩⟩⟩⟩⟩⟩⟩⟩
set_option maxRecDepth 100000 in
theorem it_wsL_law_r23 : ∀ w ∈ wsL_law_r23, w ∈ lw_tbl := List.forall_mem_cons.mpr ⟨(tk_5 _ (List.mem_of_getElem? (i := 47) rfl)), List.forall_mem_cons.mpr ⟨(tk_3 _ (List.mem_of_getElem? (i := 30) rfl)), List.forall_mem_cons.mpr ⟨(tk_3 _ (List.mem_of_getElem? (i := 31) rfl)), List.forall_mem_cons.mpr ⟨(tk_3 _ (List.mem_of_getElem? (i := 32) rfl)), List.forall_mem_cons.mpr ⟨(tk_3 _ (List.mem_of_getElem? (i := 33) rfl)), List.forall_mem_cons.mpr ⟨(tk_3 _ (List.mem_of_getElem? (i := 34) rfl)), List.forall_mem_cons.mpr ⟨(tk_3 _ (List.mem_of_getElem? (i := 36) rfl)), List.forall_mem_cons.mpr ⟨(pk_3 _ (List.mem_of_getElem? (i := 2) rfl)), List.forall_mem_cons.mpr ⟨(tk_3 _ (List.mem_of_getElem? (i := 37) rfl)), List.forall_mem_cons.mpr ⟨(tk_3 _ (List.mem_of_getElem? (i := 40) rfl)), List.forall_mem_cons.mpr ⟨(pk_3 _ (List.mem_of_getElem? (i := 3) rfl)), List.forall_mem_cons.mpr ⟨(tk_3 _ (List.mem_of_getElem? (i := 41) rfl)), List.forall_mem_cons.mpr ⟨(tk_3 _ (List.mem_of_getElem? (i := 44) rfl)), List.forall_mem_cons.mpr ⟨(pk_3 _ (List.mem_of_getElem? (i := 4) rfl)), List.forall_mem_cons.mpr ⟨(tk_3 _ (List.mem_of_getElem? (i := 45) rfl)), List.forall_mem_cons.mpr ⟨(tk_1 _ (List.mem_of_getElem? (i := 78) rfl)), List.forall_mem_cons.mpr ⟨(tk_3 _ (List.mem_of_getElem? (i := 46) rfl)), List.forall_mem_cons.mpr ⟨(tk_3 _ (List.mem_of_getElem? (i := 48) rfl)), List.forall_mem_cons.mpr ⟨(pk_3 _ (List.mem_of_getElem? (i := 5) rfl)), List.forall_mem_cons.mpr ⟨(tk_3 _ (List.mem_of_getElem? (i := 49) rfl)), List.forall_mem_cons.mpr ⟨(tk_5 _ (List.mem_of_getElem? (i := 48) rfl)), List.forall_mem_cons.mpr ⟨(tk_5 _ (List.mem_of_getElem? (i := 49) rfl)), List.forall_mem_cons.mpr ⟨(tk_5 _ (List.mem_of_getElem? (i := 50) rfl)), List.forall_mem_cons.mpr ⟨(tk_5 _ (List.mem_of_getElem? (i := 51) rfl)), fun _ h => absurd h List.not_mem_nil⟩⟩⟩⟩⟩⟩⟩⟩⟩⟩⟩⟩⟩⟩⟩⟩⟩⟩⟩⟩⟩⟩⟩⟩
set_option maxRecDepth 100000 in
theorem it_wsL_law_r24 : ∀ w ∈ wsL_law_r24, w ∈ lw_tbl := List.forall_mem_cons.mpr ⟨(tk_5 _ (List.mem_of_getElem? (i := 52) rfl)), List.forall_mem_cons.mpr ⟨(tk_5 _ (List.mem_of_getElem? (i := 54) rfl)), List.forall_mem_cons.mpr ⟨(pk_6 _ (List.mem_of_getElem? (i := 6) rfl)), List.forall_mem_cons.mpr ⟨(tk_5 _ (List.mem_of_getElem? (i := 55) rfl)), List.forall_mem_cons.mpr ⟨(tk_3 _ (List.mem_of_getElem? (i := 50) rfl)), List.forall_mem_cons.mpr ⟨(tk_3 _ (List.mem_of_getElem? (i := 51) rfl)), List.forall_mem_cons.mpr ⟨(tk_3 _ (List.mem_of_getElem? (i := 52) rfl)), List.forall_mem_cons.mpr ⟨(tk_3 _ (List.mem_of_getElem? (i := 53) rfl)), List.forall_mem_cons.mpr ⟨(tk_3 _ (List.mem_of_getElem? (i := 54) rfl)), List.forall_mem_cons.mpr ⟨(tk_5 _ (List.mem_of_getElem? (i := 56) rfl)), List.forall_mem_cons.mpr ⟨(tk_5 _ (List.mem_of_getElem? (i := 57) rfl)), List.forall_mem_cons.mpr ⟨(tk_5 _ (List.mem_of_getElem? (i := 58) rfl)), List.forall_mem_cons.mpr ⟨(tk_5 _ (List.mem_of_getElem? (i := 59) rfl)), List.forall_mem_cons.mpr ⟨(tk_5 _ (List.mem_of_getElem? (i := 60) rfl)), List.forall_mem_cons.mpr ⟨(tk_3 _ (List.mem_of_getElem? (i := 55) rfl)), List.forall_mem_cons.mpr ⟨(tk_3 _ (List.mem_of_getElem? (i := 56) rfl)), List.forall_mem_cons.mpr ⟨(tk_3 _ (List.mem_of_getElem? (i := 57) rfl)), List.forall_mem_cons.mpr ⟨(tk_3 _ (List.mem_of_getElem? (i := 58) rfl)), List.forall_mem_cons.mpr ⟨(tk_5 _ (List.mem_of_getElem? (i := 61) rfl)), List.forall_mem_cons.mpr ⟨(tk_5 _ (List.mem_of_getElem? (i := 62) rfl)), List.forall_mem_cons.mpr ⟨(tk_5 _ (List.mem_of_getElem? (i := 63) rfl)), List.forall_mem_cons.mpr ⟨(tk_5 _ (List.mem_of_getElem? (i := 64) rfl)), List.forall_mem_cons.mpr ⟨(tk_5 _ (List.mem_of_getElem? (i := 65) rfl)), List.forall_mem_cons.mpr ⟨(tk_5 _ (List.mem_of_getElem? (i := 67) rfl)), fun _ h => absurd h List.not_mem_nil⟩⟩⟩⟩⟩⟩⟩⟩⟩⟩⟩⟩⟩⟩⟩⟩⟩⟩⟩⟩⟩⟩⟩⟩
set_option maxRecDepth 100000 in
theorem it_wsL_law_r25 : ∀ w ∈ wsL_law_r25, w ∈ lw_tbl := List.forall_mem_cons.mpr ⟨(pk_6 _ (List.mem_of_getElem? (i := 7) rfl)), List.forall_mem_cons.mpr ⟨(tk_5 _ (List.mem_of_getElem? (i := 68) rfl)), List.forall_mem_cons.mpr ⟨(tk_3 _ (List.mem_of_getElem? (i := 60) rfl)), List.forall_mem_cons.mpr ⟨(tk_3 _ (List.mem_of_getElem? (i := 61) rfl)), List.forall_mem_cons.mpr ⟨(tk_3 _ (List.mem_of_getElem? (i := 62) rfl)), List.forall_mem_cons.mpr ⟨(tk_3 _ (List.mem_of_getElem? (i := 63) rfl)), List.forall_mem_cons.mpr ⟨(tk_5 _ (List.mem_of_getElem? (i := 69) rfl)), List.forall_mem_cons.mpr ⟨(tk_5 _ (List.mem_of_getElem? (i := 70) rfl)), List.forall_mem_cons.mpr ⟨(tk_5 _ (List.mem_of_getElem? (i := 71) rfl)), List.forall_mem_cons.mpr ⟨(tk_5 _ (List.mem_of_getElem? (i := 72) rfl)), List.forall_mem_cons.mpr ⟨(tk_5 _ (List.mem_of_getElem? (i := 73) rfl)), List.forall_mem_cons.mpr ⟨(tk_5 _ (List.mem_of_getElem? (i := 75) rfl)), List.forall_mem_cons.mpr ⟨(pk_6 _ (List.mem_of_getElem? (i := 8) rfl)), List.forall_mem_cons.mpr ⟨(tk_5 _ (List.mem_of_getElem? (i := 76) rfl)), List.forall_mem_cons.mpr ⟨(tk_3 _ (List.mem_of_getElem? (i := 64) rfl)), List.forall_mem_cons.mpr ⟨(tk_3 _ (List.mem_of_getElem? (i := 65) rfl)), List.forall_mem_cons.mpr ⟨(tk_3 _ (List.mem_of_getElem? (i := 66) rfl)), List.forall_mem_cons.mpr ⟨(tk_3 _ (List.mem_of_getElem? (i := 67) rfl)), List.forall_mem_cons.mpr ⟨(tk_5 _ (List.mem_of_getElem? (i := 77) rfl)), List.forall_mem_cons.mpr ⟨(tk_5 _ (List.mem_of_getElem? (i := 78) rfl)), List.forall_mem_cons.mpr ⟨(tk_5 _ (List.mem_of_getElem? (i := 79) rfl)), List.forall_mem_cons.mpr ⟨(tk_5 _ (List.mem_of_getElem? (i := 80) rfl)), List.forall_mem_cons.mpr ⟨(tk_3 _ (List.mem_of_getElem? (i := 68) rfl)), List.forall_mem_cons.mpr ⟨(tk_3 _ (List.mem_of_getElem? (i := 69) rfl)), fun _ h => absurd h List.not_mem_nil⟩⟩⟩⟩⟩⟩⟩⟩⟩⟩⟩⟩⟩⟩⟩⟩⟩⟩⟩⟩⟩⟩⟩⟩
set_option maxRecDepth 100000 in
theorem it_wsL_law_r26 : ∀ w ∈ wsL_law_r26, w ∈ lw_tbl := List.forall_mem_cons.mpr ⟨(tk_3 _ (List.mem_of_getElem? (i := 70) rfl)), List.forall_mem_cons.mpr ⟨(tk_3 _ (List.mem_of_getElem? (i := 71) rfl)), List.forall_mem_cons.mpr ⟨(tk_3 _ (List.mem_of_getElem? (i := 74) rfl)), List.forall_mem_cons.mpr ⟨(pk_3 _ (List.mem_of_getElem? (i := 6) rfl)), List.forall_mem_cons.mpr ⟨(tk_3 _ (List.mem_of_getElem? (i := 75) rfl)), List.forall_mem_cons.mpr ⟨(tk_3 _ (List.mem_of_getElem? (i := 76) rfl)), List.forall_mem_cons.mpr ⟨(tk_3 _ (List.mem_of_getElem? (i := 79) rfl)), List.forall_mem_cons.mpr ⟨(pk_3 _ (List.mem_of_getElem? (i := 7) rfl)), List.forall_mem_cons.mpr ⟨(tk_3 _ (List.mem_of_getElem? (i := 80) rfl)), List.forall_mem_cons.mpr ⟨(tk_3 _ (List.mem_of_getElem? (i := 81) rfl)), List.forall_mem_cons.mpr ⟨(tk_3 _ (List.mem_of_getElem? (i := 83) rfl)), List.forall_mem_cons.mpr ⟨(pk_3 _ (List.mem_of_getElem? (i := 8) rfl)), List.forall_mem_cons.mpr ⟨(tk_3 _ (List.mem_of_getElem? (i := 84) rfl)), List.forall_mem_cons.mpr ⟨(tk_5 _ (List.mem_of_getElem? (i := 81) rfl)), List.forall_mem_cons.mpr ⟨(tk_5 _ (List.mem_of_getElem? (i := 82) rfl)), List.forall_mem_cons.mpr ⟨(tk_5 _ (List.mem_of_getElem? (i := 83) rfl)), List.forall_mem_cons.mpr ⟨(tk_5 _ (List.mem_of_getElem? (i := 84) rfl)), List.forall_mem_cons.mpr ⟨(tk_5 _ (List.mem_of_getElem? (i := 85) rfl)), List.forall_mem_cons.mpr ⟨(tk_5 _ (List.mem_of_getElem? (i := 87) rfl)), List.forall_mem_cons.mpr ⟨(pk_6 _ (List.mem_of_getElem? (i := 9) rfl)), List.forall_mem_cons.mpr ⟨(tk_5 _ (List.mem_of_getElem? (i := 88) rfl)), List.forall_mem_cons.mpr ⟨(tk_3 _ (List.mem_of_getElem? (i := 85) rfl)), List.forall_mem_cons.mpr ⟨(tk_3 _ (List.mem_of_getElem? (i := 86) rfl)), List.forall_mem_cons.mpr ⟨(tk_3 _ (List.mem_of_getElem? (i := 87) rfl)), fun _ h => absurd h List.not_mem_nil⟩⟩⟩⟩⟩⟩⟩⟩⟩⟩⟩⟩⟩⟩⟩⟩⟩⟩⟩⟩⟩⟩⟩⟩
set_option maxRecDepth 100000 in
theorem it_wsL_law_r27 : ∀ w ∈ wsL_law_r27, w ∈ lw_tbl := List.forall_mem_cons.mpr ⟨(tk_3 _ (List.mem_of_getElem? (i := 88) rfl)), List.forall_mem_cons.mpr ⟨(tk_3 _ (List.mem_of_getElem? (i := 89) rfl)), List.forall_mem_cons.mpr ⟨(tk_3 _ (List.mem_of_getElem? (i := 91) rfl)), List.forall_mem_cons.mpr ⟨(pk_3 _ (List.mem_of_getElem? (i := 9) rfl)), List.forall_mem_cons.mpr ⟨(tk_3 _ (List.mem_of_getElem? (i := 92) rfl)), List.forall_mem_cons.mpr ⟨(tk_5 _ (List.mem_of_getElem? (i := 89) rfl)), List.forall_mem_cons.mpr ⟨(tk_5 _ (List.mem_of_getElem? (i := 90) rfl)), List.forall_mem_cons.mpr ⟨(tk_5 _ (List.mem_of_getElem? (i := 91) rfl)), List.forall_mem_cons.mpr ⟨(tk_5 _ (List.mem_of_getElem? (i := 92) rfl)), List.forall_mem_cons.mpr ⟨(tk_5 _ (List.mem_of_getElem? (i := 93) rfl)), List.forall_mem_cons.mpr ⟨(tk_3 _ (List.mem_of_getElem? (i := 93) rfl)), List.forall_mem_cons.mpr ⟨(tk_3 _ (List.mem_of_getElem? (i := 94) rfl)), List.forall_mem_cons.mpr ⟨(tk_3 _ (List.mem_of_getElem? (i := 95) rfl)), List.forall_mem_cons.mpr ⟨(tk_3 _ (List.mem_of_getElem? (i := 96) rfl)), List.forall_mem_cons.mpr ⟨(tk_3 _ (List.mem_of_getElem? (i := 97) rfl)), List.forall_mem_cons.mpr ⟨(tk_3 _ (List.mem_of_getElem? (i := 98) rfl)), List.forall_mem_cons.mpr ⟨(tk_3 _ (List.mem_of_getElem? (i := 99) rfl)), List.forall_mem_cons.mpr ⟨(tk_3 _ (List.mem_of_getElem? (i := 102) rfl)), List.forall_mem_cons.mpr ⟨(pk_3 _ (List.mem_of_getElem? (i := 10) rfl)), List.forall_mem_cons.mpr ⟨(tk_3 _ (List.mem_of_getElem? (i := 103) rfl)), List.forall_mem_cons.mpr ⟨(tk_1 _ (List.mem_of_getElem? (i := 235) rfl)), List.forall_mem_cons.mpr ⟨(tk_3 _ (List.mem_of_getElem? (i := 106) rfl)), List.forall_mem_cons.mpr ⟨(pk_3 _ (List.mem_of_getElem? (i := 11) rfl)), List.forall_mem_cons.mpr ⟨(tk_3 _ (List.mem_of_getElem? (i := 107) rfl)), fun _ h => absurd h List.not_mem_nil⟩⟩⟩⟩⟩⟩⟩⟩⟩⟩⟩⟩⟩⟩⟩⟩⟩⟩⟩⟩⟩⟩⟩⟩
set_option maxRecDepth 100000 in
theorem it_wsL_law_r28 : ∀ w ∈ wsL_law_r28, w ∈ lw_tbl := List.forall_mem_cons.mpr ⟨(tk_5 _ (List.mem_of_getElem? (i := 94) rfl)), List.forall_mem_cons.mpr ⟨(tk_5 _ (List.mem_of_getElem? (i := 95) rfl)), List.forall_mem_cons.mpr ⟨(tk_5 _ (List.mem_of_getElem? (i := 96) rfl)), List.forall_mem_cons.mpr ⟨(tk_5 _ (List.mem_of_getElem? (i := 97) rfl)), List.forall_mem_cons.mpr ⟨(tk_5 _ (List.mem_of_getElem? (i := 98) rfl)), List.forall_mem_cons.mpr ⟨(tk_5 _ (List.mem_of_getElem? (i := 99) rfl)), List.forall_mem_cons.mpr ⟨(tk_5 _ (List.mem_of_getElem? (i := 100) rfl)), List.forall_mem_cons.mpr ⟨(tk_5 _ (List.mem_of_getElem? (i := 101) rfl)), List.forall_mem_cons.mpr ⟨(tk_5 _ (List.mem_of_getElem? (i := 103) rfl)), List.forall_mem_cons.mpr ⟨(pk_6 _ (List.mem_of_getElem? (i := 10) rfl)), List.forall_mem_cons.mpr ⟨(tk_5 _ (List.mem_of_getElem? (i := 104) rfl)), List.forall_mem_cons.mpr ⟨(tk_3 _ (List.mem_of_getElem? (i := 108) rfl)), List.forall_mem_cons.mpr ⟨(tk_3 _ (List.mem_of_getElem? (i := 109) rfl)), List.forall_mem_cons.mpr ⟨(tk_3 _ (List.mem_of_getElem? (i := 110) rfl)), List.forall_mem_cons.mpr ⟨(tk_3 _ (List.mem_of_getElem? (i := 111) rfl)), List.forall_mem_cons.mpr ⟨(tk_3 _ (List.mem_of_getElem? (i := 112) rfl)), List.forall_mem_cons.mpr ⟨(tk_3 _ (List.mem_of_getElem? (i := 113) rfl)), List.forall_mem_cons.mpr ⟨(tk_3 _ (List.mem_of_getElem? (i := 114) rfl)), List.forall_mem_cons.mpr ⟨(tk_5 _ (List.mem_of_getElem? (i := 105) rfl)), List.forall_mem_cons.mpr ⟨(tk_5 _ (List.mem_of_getElem? (i := 106) rfl)), List.forall_mem_cons.mpr ⟨(tk_5 _ (List.mem_of_getElem? (i := 107) rfl)), List.forall_mem_cons.mpr ⟨(tk_5 _ (List.mem_of_getElem? (i := 108) rfl)), List.forall_mem_cons.mpr ⟨(tk_3 _ (List.mem_of_getElem? (i := 115) rfl)), List.forall_mem_cons.mpr ⟨(tk_3 _ (List.mem_of_getElem? (i := 116) rfl)), fun _ h => absurd h List.not_mem_nil⟩⟩⟩⟩⟩⟩⟩⟩⟩⟩⟩⟩⟩⟩⟩⟩⟩⟩⟩⟩⟩⟩⟩⟩
set_option maxRecDepth 100000 in
theorem it_wsL_law_r29 : ∀ w ∈ wsL_law_r29, w ∈ lw_tbl := List.forall_mem_cons.mpr ⟨(tk_3 _ (List.mem_of_getElem? (i := 117) rfl)), List.forall_mem_cons.mpr ⟨(tk_3 _ (List.mem_of_getElem? (i := 118) rfl)), List.forall_mem_cons.mpr ⟨(tk_5 _ (List.mem_of_getElem? (i := 109) rfl)), List.forall_mem_cons.mpr ⟨(tk_5 _ (List.mem_of_getElem? (i := 110) rfl)), List.forall_mem_cons.mpr ⟨(tk_5 _ (List.mem_of_getElem? (i := 111) rfl)), List.forall_mem_cons.mpr ⟨(tk_5 _ (List.mem_of_getElem? (i := 112) rfl)), List.forall_mem_cons.mpr ⟨(tk_3 _ (List.mem_of_getElem? (i := 119) rfl)), List.forall_mem_cons.mpr ⟨(tk_3 _ (List.mem_of_getElem? (i := 120) rfl)), List.forall_mem_cons.mpr ⟨(tk_3 _ (List.mem_of_getElem? (i := 121) rfl)), List.forall_mem_cons.mpr ⟨(tk_3 _ (List.mem_of_getElem? (i := 122) rfl)), List.forall_mem_cons.mpr ⟨(tk_5 _ (List.mem_of_getElem? (i := 113) rfl)), List.forall_mem_cons.mpr ⟨(tk_5 _ (List.mem_of_getElem? (i := 114) rfl)), List.forall_mem_cons.mpr ⟨(tk_5 _ (List.mem_of_getElem? (i := 115) rfl)), List.forall_mem_cons.mpr ⟨(tk_5 _ (List.mem_of_getElem? (i := 116) rfl)), List.forall_mem_cons.mpr ⟨(tk_3 _ (List.mem_of_getElem? (i := 124) rfl)), List.forall_mem_cons.mpr ⟨(tk_3 _ (List.mem_of_getElem? (i := 125) rfl)), List.forall_mem_cons.mpr ⟨(tk_3 _ (List.mem_of_getElem? (i := 126) rfl)), List.forall_mem_cons.mpr ⟨(tk_3 _ (List.mem_of_getElem? (i := 127) rfl)), List.forall_mem_cons.mpr ⟨(tk_3 _ (List.mem_of_getElem? (i := 130) rfl)), List.forall_mem_cons.mpr ⟨(pk_3 _ (List.mem_of_getElem? (i := 12) rfl)), List.forall_mem_cons.mpr ⟨(tk_3 _ (List.mem_of_getElem? (i := 131) rfl)), List.forall_mem_cons.mpr ⟨(tk_5 _ (List.mem_of_getElem? (i := 117) rfl)), List.forall_mem_cons.mpr ⟨(tk_5 _ (List.mem_of_getElem? (i := 118) rfl)), List.forall_mem_cons.mpr ⟨(tk_5 _ (List.mem_of_getElem? (i := 119) rfl)), fun _ h => absurd h List.not_mem_nil⟩⟩⟩⟩⟩⟩⟩⟩⟩⟩⟩⟩⟩⟩⟩⟩⟩⟩⟩⟩⟩⟩⟩⟩
set_option maxRecDepth 100000 in
theorem it_wsL_law_r30 : ∀ w ∈ wsL_law_r30, w ∈ lw_tbl := List.forall_mem_cons.mpr ⟨(tk_5 _ (List.mem_of_getElem? (i := 120) rfl)), List.forall_mem_cons.mpr ⟨(tk_3 _ (List.mem_of_getElem? (i := 132) rfl)), List.forall_mem_cons.mpr ⟨(tk_3 _ (List.mem_of_getElem? (i := 133) rfl)), List.forall_mem_cons.mpr ⟨(tk_3 _ (List.mem_of_getElem? (i := 134) rfl)), List.forall_mem_cons.mpr ⟨(tk_3 _ (List.mem_of_getElem? (i := 135) rfl)), List.forall_mem_cons.mpr ⟨(tk_5 _ (List.mem_of_getElem? (i := 121) rfl)), List.forall_mem_cons.mpr ⟨(tk_5 _ (List.mem_of_getElem? (i := 122) rfl)), List.forall_mem_cons.mpr ⟨(tk_5 _ (List.mem_of_getElem? (i := 123) rfl)), List.forall_mem_cons.mpr ⟨(tk_5 _ (List.mem_of_getElem? (i := 124) rfl)), List.forall_mem_cons.mpr ⟨(tk_3 _ (List.mem_of_getElem? (i := 136) rfl)), List.forall_mem_cons.mpr ⟨(tk_3 _ (List.mem_of_getElem? (i := 137) rfl)), List.forall_mem_cons.mpr ⟨(tk_3 _ (List.mem_of_getElem? (i := 138) rfl)), List.forall_mem_cons.mpr ⟨(tk_3 _ (List.mem_of_getElem? (i := 139) rfl)), List.forall_mem_cons.mpr ⟨(tk_3 _ (List.mem_of_getElem? (i := 142) rfl)), List.forall_mem_cons.mpr ⟨(pk_3 _ (List.mem_of_getElem? (i := 13) rfl)), List.forall_mem_cons.mpr ⟨(tk_3 _ (List.mem_of_getElem? (i := 143) rfl)), List.forall_mem_cons.mpr ⟨(tk_5 _ (List.mem_of_getElem? (i := 125) rfl)), List.forall_mem_cons.mpr ⟨(tk_5 _ (List.mem_of_getElem? (i := 126) rfl)), List.forall_mem_cons.mpr ⟨(tk_5 _ (List.mem_of_getElem? (i := 127) rfl)), List.forall_mem_cons.mpr ⟨(tk_5 _ (List.mem_of_getElem? (i := 128) rfl)), List.forall_mem_cons.mpr ⟨(tk_3 _ (List.mem_of_getElem? (i := 144) rfl)), List.forall_mem_cons.mpr ⟨(tk_3 _ (List.mem_of_getElem? (i := 145) rfl)), List.forall_mem_cons.mpr ⟨(tk_3 _ (List.mem_of_getElem? (i := 146) rfl)), List.forall_mem_cons.mpr ⟨(tk_3 _ (List.mem_of_getElem? (i := 147) rfl)), fun _ h => absurd h List.not_mem_nil⟩⟩⟩⟩⟩⟩⟩⟩⟩⟩⟩⟩⟩⟩⟩⟩⟩⟩⟩⟩⟩⟩⟩⟩
set_option maxRecDepth 100000 in
theorem it_wsL_law_r31 : ∀ w ∈ wsL_law_r31, w ∈ lw_tbl := List.forall_mem_cons.mpr ⟨(tk_3 _ (List.mem_of_getElem? (i := 148) rfl)), List.forall_mem_cons.mpr ⟨(tk_3 _ (List.mem_of_getElem? (i := 149) rfl)), List.forall_mem_cons.mpr ⟨(tk_3 _ (List.mem_of_getElem? (i := 150) rfl)), List.forall_mem_cons.mpr ⟨(tk_5 _ (List.mem_of_getElem? (i := 129) rfl)), List.forall_mem_cons.mpr ⟨(tk_5 _ (List.mem_of_getElem? (i := 130) rfl)), List.forall_mem_cons.mpr ⟨(tk_5 _ (List.mem_of_getElem? (i := 131) rfl)), List.forall_mem_cons.mpr ⟨(tk_5 _ (List.mem_of_getElem? (i := 132) rfl)), List.forall_mem_cons.mpr ⟨(tk_5 _ (List.mem_of_getElem? (i := 133) rfl)), List.forall_mem_cons.mpr ⟨(tk_5 _ (List.mem_of_getElem? (i := 134) rfl)), List.forall_mem_cons.mpr ⟨(tk_5 _ (List.mem_of_getElem? (i := 135) rfl)), List.forall_mem_cons.mpr ⟨(tk_3 _ (List.mem_of_getElem? (i := 151) rfl)), List.forall_mem_cons.mpr ⟨(tk_3 _ (List.mem_of_getElem? (i := 152) rfl)), List.forall_mem_cons.mpr ⟨(tk_3 _ (List.mem_of_getElem? (i := 153) rfl)), List.forall_mem_cons.mpr ⟨(tk_3 _ (List.mem_of_getElem? (i := 154) rfl)), List.forall_mem_cons.mpr ⟨(tk_5 _ (List.mem_of_getElem? (i := 136) rfl)), List.forall_mem_cons.mpr ⟨(tk_5 _ (List.mem_of_getElem? (i := 137) rfl)), List.forall_mem_cons.mpr ⟨(tk_5 _ (List.mem_of_getElem? (i := 138) rfl)), List.forall_mem_cons.mpr ⟨(tk_5 _ (List.mem_of_getElem? (i := 139) rfl)), List.forall_mem_cons.mpr ⟨(tk_3 _ (List.mem_of_getElem? (i := 155) rfl)), List.forall_mem_cons.mpr ⟨(tk_3 _ (List.mem_of_getElem? (i := 156) rfl)), List.forall_mem_cons.mpr ⟨(tk_3 _ (List.mem_of_getElem? (i := 157) rfl)), List.forall_mem_cons.mpr ⟨(tk_3 _ (List.mem_of_getElem? (i := 158) rfl)), List.forall_mem_cons.mpr ⟨(tk_3 _ (List.mem_of_getElem? (i := 161) rfl)), List.forall_mem_cons.mpr ⟨(pk_3 _ (List.mem_of_getElem? (i := 14) rfl)), fun _ h => absurd h List.not_mem_nil⟩⟩⟩⟩⟩⟩⟩⟩⟩⟩⟩⟩⟩⟩⟩⟩⟩⟩⟩⟩⟩⟩⟩⟩
set_option maxRecDepth 100000 in
theorem it_wsL_law_r32 : ∀ w ∈ wsL_law_r32, w ∈ lw_tbl := List.forall_mem_cons.mpr ⟨(tk_3 _ (List.mem_of_getElem? (i := 162) rfl)), List.forall_mem_cons.mpr ⟨(tk_1 _ (List.mem_of_getElem? (i := 209) rfl)), List.forall_mem_cons.mpr ⟨(tk_1 _ (List.mem_of_getElem? (i := 211) rfl)), List.forall_mem_cons.mpr ⟨(tk_1 _ (List.mem_of_getElem? (i := 212) rfl)), List.forall_mem_cons.mpr ⟨(tk_1 _ (List.mem_of_getElem? (i := 213) rfl)), List.forall_mem_cons.mpr ⟨(tk_3 _ (List.mem_of_getElem? (i := 165) rfl)), List.forall_mem_cons.mpr ⟨(pk_3 _ (List.mem_of_getElem? (i := 15) rfl)), List.forall_mem_cons.mpr ⟨(tk_3 _ (List.mem_of_getElem? (i := 166) rfl)), List.forall_mem_cons.mpr ⟨(tk_3 _ (List.mem_of_getElem? (i := 167) rfl)), List.forall_mem_cons.mpr ⟨(tk_3 _ (List.mem_of_getElem? (i := 169) rfl)), List.forall_mem_cons.mpr ⟨(pk_4 _ (List.mem_of_getElem? (i := 0) rfl)), List.forall_mem_cons.mpr ⟨(tk_3 _ (List.mem_of_getElem? (i := 170) rfl)), List.forall_mem_cons.mpr ⟨(tk_3 _ (List.mem_of_getElem? (i := 171) rfl)), List.forall_mem_cons.mpr ⟨(tk_3 _ (List.mem_of_getElem? (i := 173) rfl)), List.forall_mem_cons.mpr ⟨(pk_4 _ (List.mem_of_getElem? (i := 1) rfl)), List.forall_mem_cons.mpr ⟨(tk_3 _ (List.mem_of_getElem? (i := 174) rfl)), List.forall_mem_cons.mpr ⟨(tk_3 _ (List.mem_of_getElem? (i := 175) rfl)), List.forall_mem_cons.mpr ⟨(tk_3 _ (List.mem_of_getElem? (i := 177) rfl)), List.forall_mem_cons.mpr ⟨(pk_4 _ (List.mem_of_getElem? (i := 2) rfl)), List.forall_mem_cons.mpr ⟨(tk_3 _ (List.mem_of_getElem? (i := 178) rfl)), List.forall_mem_cons.mpr ⟨(tk_3 _ (List.mem_of_getElem? (i := 179) rfl)), List.forall_mem_cons.mpr ⟨(tk_3 _ (List.mem_of_getElem? (i := 181) rfl)), List.forall_mem_cons.mpr ⟨(pk_4 _ (List.mem_of_getElem? (i := 3) rfl)), List.forall_mem_cons.mpr ⟨(tk_3 _ (List.mem_of_getElem? (i := 182) rfl)), fun _ h => absurd h List.not_mem_nil⟩⟩⟩⟩⟩⟩⟩⟩⟩⟩⟩⟩⟩⟩⟩⟩⟩⟩⟩⟩⟩⟩⟩⟩
set_option maxRecDepth 100000 in
theorem it_wsL_law_r33 : ∀ w ∈ wsL_law_r33, w ∈ lw_tbl := List.forall_mem_cons.mpr ⟨(tk_3 _ (List.mem_of_getElem? (i := 183) rfl)), List.forall_mem_cons.mpr ⟨(tk_3 _ (List.mem_of_getElem? (i := 185) rfl)), List.forall_mem_cons.mpr ⟨(pk_4 _ (List.mem_of_getElem? (i := 4) rfl)), List.forall_mem_cons.mpr ⟨(tk_3 _ (List.mem_of_getElem? (i := 186) rfl)), List.forall_mem_cons.mpr ⟨(tk_5 _ (List.mem_of_getElem? (i := 140) rfl)), List.forall_mem_cons.mpr ⟨(tk_5 _ (List.mem_of_getElem? (i := 141) rfl)), List.forall_mem_cons.mpr ⟨(tk_5 _ (List.mem_of_getElem? (i := 142) rfl)), List.forall_mem_cons.mpr ⟨(tk_5 _ (List.mem_of_getElem? (i := 143) rfl)), List.forall_mem_cons.mpr ⟨(tk_4 _ (List.mem_of_getElem? (i := 46) rfl)), List.forall_mem_cons.mpr ⟨(tk_4 _ (List.mem_of_getElem? (i := 47) rfl)), List.forall_mem_cons.mpr ⟨(tk_4 _ (List.mem_of_getElem? (i := 48) rfl)), List.forall_mem_cons.mpr ⟨(tk_4 _ (List.mem_of_getElem? (i := 49) rfl)), List.forall_mem_cons.mpr ⟨(tk_5 _ (List.mem_of_getElem? (i := 144) rfl)), List.forall_mem_cons.mpr ⟨(tk_5 _ (List.mem_of_getElem? (i := 146) rfl)), List.forall_mem_cons.mpr ⟨(pk_6 _ (List.mem_of_getElem? (i := 11) rfl)), List.forall_mem_cons.mpr ⟨(tk_5 _ (List.mem_of_getElem? (i := 147) rfl)), List.forall_mem_cons.mpr ⟨(tk_5 _ (List.mem_of_getElem? (i := 148) rfl)), List.forall_mem_cons.mpr ⟨(tk_5 _ (List.mem_of_getElem? (i := 150) rfl)), List.forall_mem_cons.mpr ⟨(pk_6 _ (List.mem_of_getElem? (i := 12) rfl)), List.forall_mem_cons.mpr ⟨(tk_5 _ (List.mem_of_getElem? (i := 151) rfl)), List.forall_mem_cons.mpr ⟨(tk_5 _ (List.mem_of_getElem? (i := 152) rfl)), List.forall_mem_cons.mpr ⟨(tk_5 _ (List.mem_of_getElem? (i := 154) rfl)), List.forall_mem_cons.mpr ⟨(pk_6 _ (List.mem_of_getElem? (i := 13) rfl)), List.forall_mem_cons.mpr ⟨(tk_5 _ (List.mem_of_getElem? (i := 155) rfl)), fun _ h => absurd h List.not_mem_nil⟩⟩⟩⟩⟩⟩⟩⟩⟩⟩⟩⟩⟩⟩⟩⟩⟩⟩⟩⟩⟩⟩⟩⟩
set_option maxRecDepth 100000 in
theorem it_wsL_law_r34 : ∀ w ∈ wsL_law_r34, w ∈ lw_tbl := List.forall_mem_cons.mpr ⟨(tk_5 _ (List.mem_of_getElem? (i := 156) rfl)), List.forall_mem_cons.mpr ⟨(tk_5 _ (List.mem_of_getElem? (i := 158) rfl)), List.forall_mem_cons.mpr ⟨(pk_6 _ (List.mem_of_getElem? (i := 14) rfl)), List.forall_mem_cons.mpr ⟨(tk_5 _ (List.mem_of_getElem? (i := 159) rfl)), List.forall_mem_cons.mpr ⟨(tk_5 _ (List.mem_of_getElem? (i := 160) rfl)), List.forall_mem_cons.mpr ⟨(tk_5 _ (List.mem_of_getElem? (i := 162) rfl)), List.forall_mem_cons.mpr ⟨(pk_6 _ (List.mem_of_getElem? (i := 15) rfl)), List.forall_mem_cons.mpr ⟨(tk_5 _ (List.mem_of_getElem? (i := 163) rfl)), List.forall_mem_cons.mpr ⟨(tk_3 _ (List.mem_of_getElem? (i := 187) rfl)), List.forall_mem_cons.mpr ⟨(tk_3 _ (List.mem_of_getElem? (i := 188) rfl)), List.forall_mem_cons.mpr ⟨(tk_3 _ (List.mem_of_getElem? (i := 189) rfl)), List.forall_mem_cons.mpr ⟨(tk_3 _ (List.mem_of_getElem? (i := 190) rfl)), List.forall_mem_cons.mpr ⟨(tk_5 _ (List.mem_of_getElem? (i := 164) rfl)), List.forall_mem_cons.mpr ⟨(tk_5 _ (List.mem_of_getElem? (i := 165) rfl)), List.forall_mem_cons.mpr ⟨(tk_5 _ (List.mem_of_getElem? (i := 166) rfl)), List.forall_mem_cons.mpr ⟨(tk_5 _ (List.mem_of_getElem? (i := 167) rfl)), List.forall_mem_cons.mpr ⟨(tk_3 _ (List.mem_of_getElem? (i := 191) rfl)), List.forall_mem_cons.mpr ⟨(tk_3 _ (List.mem_of_getElem? (i := 192) rfl)), List.forall_mem_cons.mpr ⟨(tk_3 _ (List.mem_of_getElem? (i := 193) rfl)), List.forall_mem_cons.mpr ⟨(tk_3 _ (List.mem_of_getElem? (i := 194) rfl)), List.forall_mem_cons.mpr ⟨(tk_3 _ (List.mem_of_getElem? (i := 197) rfl)), List.forall_mem_cons.mpr ⟨(pk_4 _ (List.mem_of_getElem? (i := 5) rfl)), List.forall_mem_cons.mpr ⟨(tk_3 _ (List.mem_of_getElem? (i := 198) rfl)), List.forall_mem_cons.mpr ⟨(tk_1 _ (List.mem_of_getElem? (i := 237) rfl)), fun _ h => absurd h List.not_mem_nil⟩⟩⟩⟩⟩⟩⟩⟩⟩⟩⟩⟩⟩⟩⟩⟩⟩⟩⟩⟩⟩⟩⟩⟩
set_option maxRecDepth 100000 in
theorem it_wsL_law_r35 : ∀ w ∈ wsL_law_r35, w ∈ lw_tbl := List.forall_mem_cons.mpr ⟨(tk_5 _ (List.mem_of_getElem? (i := 168) rfl)), List.forall_mem_cons.mpr ⟨(tk_5 _ (List.mem_of_getElem? (i := 169) rfl)), List.forall_mem_cons.mpr ⟨(tk_5 _ (List.mem_of_getElem? (i := 170) rfl)), List.forall_mem_cons.mpr ⟨(tk_5 _ (List.mem_of_getElem? (i := 171) rfl)), List.forall_mem_cons.mpr ⟨(tk_3 _ (List.mem_of_getElem? (i := 199) rfl)), List.forall_mem_cons.mpr ⟨(tk_3 _ (List.mem_of_getElem? (i := 200) rfl)), List.forall_mem_cons.mpr ⟨(tk_3 _ (List.mem_of_getElem? (i := 201) rfl)), List.forall_mem_cons.mpr ⟨(tk_3 _ (List.mem_of_getElem? (i := 202) rfl)), List.forall_mem_cons.mpr ⟨(tk_3 _ (List.mem_of_getElem? (i := 205) rfl)), List.forall_mem_cons.mpr ⟨(pk_4 _ (List.mem_of_getElem? (i := 6) rfl)), List.forall_mem_cons.mpr ⟨(tk_3 _ (List.mem_of_getElem? (i := 206) rfl)), List.forall_mem_cons.mpr ⟨(tk_5 _ (List.mem_of_getElem? (i := 172) rfl)), List.forall_mem_cons.mpr ⟨(tk_5 _ (List.mem_of_getElem? (i := 173) rfl)), List.forall_mem_cons.mpr ⟨(tk_5 _ (List.mem_of_getElem? (i := 174) rfl)), List.forall_mem_cons.mpr ⟨(tk_5 _ (List.mem_of_getElem? (i := 175) rfl)), List.forall_mem_cons.mpr ⟨(tk_5 _ (List.mem_of_getElem? (i := 176) rfl)), List.forall_mem_cons.mpr ⟨(tk_5 _ (List.mem_of_getElem? (i := 177) rfl)), List.forall_mem_cons.mpr ⟨(tk_5 _ (List.mem_of_getElem? (i := 178) rfl)), List.forall_mem_cons.mpr ⟨(tk_3 _ (List.mem_of_getElem? (i := 207) rfl)), List.forall_mem_cons.mpr ⟨(tk_3 _ (List.mem_of_getElem? (i := 208) rfl)), List.forall_mem_cons.mpr ⟨(tk_3 _ (List.mem_of_getElem? (i := 209) rfl)), List.forall_mem_cons.mpr ⟨(tk_3 _ (List.mem_of_getElem? (i := 210) rfl)), List.forall_mem_cons.mpr ⟨(tk_3 _ (List.mem_of_getElem? (i := 215) rfl)), List.forall_mem_cons.mpr ⟨(tk_3 _ (List.mem_of_getElem? (i := 213) rfl)), fun _ h => absurd h List.not_mem_nil⟩⟩⟩⟩⟩⟩⟩⟩⟩⟩⟩⟩⟩⟩⟩⟩⟩⟩⟩⟩⟩⟩⟩⟩
set_option maxRecDepth 100000 in
theorem it_wsL_law_r36 : ∀ w ∈ wsL_law_r36, w ∈ lw_tbl := List.forall_mem_cons.mpr ⟨(pk_4 _ (List.mem_of_getElem? (i := 7) rfl)), List.forall_mem_cons.mpr ⟨(tk_3 _ (List.mem_of_getElem? (i := 214) rfl)), List.forall_mem_cons.mpr ⟨(tk_5 _ (List.mem_of_getElem? (i := 179) rfl)), List.forall_mem_cons.mpr ⟨(tk_5 _ (List.mem_of_getElem? (i := 180) rfl)), List.forall_mem_cons.mpr ⟨(tk_5 _ (List.mem_of_getElem? (i := 181) rfl)), List.forall_mem_cons.mpr ⟨(tk_5 _ (List.mem_of_getElem? (i := 182) rfl)), List.forall_mem_cons.mpr ⟨(tk_3 _ (List.mem_of_getElem? (i := 216) rfl)), List.forall_mem_cons.mpr ⟨(tk_3 _ (List.mem_of_getElem? (i := 217) rfl)), List.forall_mem_cons.mpr ⟨(tk_3 _ (List.mem_of_getElem? (i := 218) rfl)), List.forall_mem_cons.mpr ⟨(tk_3 _ (List.mem_of_getElem? (i := 219) rfl)), List.forall_mem_cons.mpr ⟨(tk_3 _ (List.mem_of_getElem? (i := 220) rfl)), List.forall_mem_cons.mpr ⟨(tk_5 _ (List.mem_of_getElem? (i := 183) rfl)), List.forall_mem_cons.mpr ⟨(tk_5 _ (List.mem_of_getElem? (i := 184) rfl)), List.forall_mem_cons.mpr ⟨(tk_5 _ (List.mem_of_getElem? (i := 185) rfl)), List.forall_mem_cons.mpr ⟨(tk_5 _ (List.mem_of_getElem? (i := 186) rfl)), List.forall_mem_cons.mpr ⟨(tk_3 _ (List.mem_of_getElem? (i := 221) rfl)), List.forall_mem_cons.mpr ⟨(tk_3 _ (List.mem_of_getElem? (i := 222) rfl)), List.forall_mem_cons.mpr ⟨(tk_3 _ (List.mem_of_getElem? (i := 223) rfl)), List.forall_mem_cons.mpr ⟨(tk_3 _ (List.mem_of_getElem? (i := 224) rfl)), List.forall_mem_cons.mpr ⟨(tk_5 _ (List.mem_of_getElem? (i := 187) rfl)), List.forall_mem_cons.mpr ⟨(tk_5 _ (List.mem_of_getElem? (i := 188) rfl)), List.forall_mem_cons.mpr ⟨(tk_5 _ (List.mem_of_getElem? (i := 189) rfl)), List.forall_mem_cons.mpr ⟨(tk_5 _ (List.mem_of_getElem? (i := 190) rfl)), List.forall_mem_cons.mpr ⟨(tk_3 _ (List.mem_of_getElem? (i := 225) rfl)), fun _ h => absurd h List.not_mem_nil⟩⟩⟩⟩⟩⟩⟩⟩⟩⟩⟩⟩⟩⟩⟩⟩⟩⟩⟩⟩⟩⟩⟩⟩
set_option maxRecDepth 100000 in
theorem it_wsL_law_r37 : ∀ w ∈ wsL_law_r37, w ∈ lw_tbl := List.forall_mem_cons.mpr ⟨(tk_3 _ (List.mem_of_getElem? (i := 226) rfl)), List.forall_mem_cons.mpr ⟨(tk_3 _ (List.mem_of_getElem? (i := 227) rfl)), List.forall_mem_cons.mpr ⟨(tk_3 _ (List.mem_of_getElem? (i := 228) rfl)), List.forall_mem_cons.mpr ⟨(tk_2 _ (List.mem_of_getElem? (i := 14) rfl)), List.forall_mem_cons.mpr ⟨(tk_3 _ (List.mem_of_getElem? (i := 231) rfl)), List.forall_mem_cons.mpr ⟨(pk_4 _ (List.mem_of_getElem? (i := 8) rfl)), List.forall_mem_cons.mpr ⟨(tk_3 _ (List.mem_of_getElem? (i := 232) rfl)), List.forall_mem_cons.mpr ⟨(tk_1 _ (List.mem_of_getElem? (i := 151) rfl)), List.forall_mem_cons.mpr ⟨(tk_3 _ (List.mem_of_getElem? (i := 235) rfl)), List.forall_mem_cons.mpr ⟨(tk_1 _ (List.mem_of_getElem? (i := 153) rfl)), List.forall_mem_cons.mpr ⟨(tk_5 _ (List.mem_of_getElem? (i := 191) rfl)), List.forall_mem_cons.mpr ⟨(tk_5 _ (List.mem_of_getElem? (i := 192) rfl)), List.forall_mem_cons.mpr ⟨(tk_5 _ (List.mem_of_getElem? (i := 193) rfl)), List.forall_mem_cons.mpr ⟨(tk_5 _ (List.mem_of_getElem? (i := 194) rfl)), List.forall_mem_cons.mpr ⟨(tk_4 _ (List.mem_of_getElem? (i := 29) rfl)), List.forall_mem_cons.mpr ⟨(tk_4 _ (List.mem_of_getElem? (i := 30) rfl)), List.forall_mem_cons.mpr ⟨(tk_3 _ (List.mem_of_getElem? (i := 236) rfl)), List.forall_mem_cons.mpr ⟨(tk_3 _ (List.mem_of_getElem? (i := 237) rfl)), List.forall_mem_cons.mpr ⟨(tk_3 _ (List.mem_of_getElem? (i := 238) rfl)), List.forall_mem_cons.mpr ⟨(tk_3 _ (List.mem_of_getElem? (i := 239) rfl)), List.forall_mem_cons.mpr ⟨(tk_5 _ (List.mem_of_getElem? (i := 195) rfl)), List.forall_mem_cons.mpr ⟨(tk_5 _ (List.mem_of_getElem? (i := 196) rfl)), List.forall_mem_cons.mpr ⟨(tk_5 _ (List.mem_of_getElem? (i := 197) rfl)), List.forall_mem_cons.mpr ⟨(tk_5 _ (List.mem_of_getElem? (i := 198) rfl)), fun _ h => absurd h List.not_mem_nil⟩⟩⟩⟩⟩⟩⟩⟩⟩⟩⟩⟩⟩⟩⟩⟩⟩⟩⟩⟩⟩⟩⟩⟩
set_option maxRecDepth 100000 in
theorem it_wsL_law_r38 : ∀ w ∈ wsL_law_r38, w ∈ lw_tbl := List.forall_mem_cons.mpr ⟨(tk_4 _ (List.mem_of_getElem? (i := 0) rfl)), List.forall_mem_cons.mpr ⟨(tk_4 _ (List.mem_of_getElem? (i := 1) rfl)), List.forall_mem_cons.mpr ⟨(tk_4 _ (List.mem_of_getElem? (i := 2) rfl)), List.forall_mem_cons.mpr ⟨(tk_4 _ (List.mem_of_getElem? (i := 3) rfl)), List.forall_mem_cons.mpr ⟨(tk_5 _ (List.mem_of_getElem? (i := 199) rfl)), List.forall_mem_cons.mpr ⟨(tk_5 _ (List.mem_of_getElem? (i := 200) rfl)), List.forall_mem_cons.mpr ⟨(tk_5 _ (List.mem_of_getElem? (i := 201) rfl)), List.forall_mem_cons.mpr ⟨(tk_5 _ (List.mem_of_getElem? (i := 202) rfl)), List.forall_mem_cons.mpr ⟨(tk_4 _ (List.mem_of_getElem? (i := 4) rfl)), List.forall_mem_cons.mpr ⟨(tk_4 _ (List.mem_of_getElem? (i := 5) rfl)), List.forall_mem_cons.mpr ⟨(tk_4 _ (List.mem_of_getElem? (i := 6) rfl)), List.forall_mem_cons.mpr ⟨(tk_4 _ (List.mem_of_getElem? (i := 7) rfl)), List.forall_mem_cons.mpr ⟨(tk_5 _ (List.mem_of_getElem? (i := 203) rfl)), List.forall_mem_cons.mpr ⟨(tk_5 _ (List.mem_of_getElem? (i := 204) rfl)), List.forall_mem_cons.mpr ⟨(tk_5 _ (List.mem_of_getElem? (i := 205) rfl)), List.forall_mem_cons.mpr ⟨(tk_5 _ (List.mem_of_getElem? (i := 206) rfl)), List.forall_mem_cons.mpr ⟨(tk_4 _ (List.mem_of_getElem? (i := 8) rfl)), List.forall_mem_cons.mpr ⟨(tk_4 _ (List.mem_of_getElem? (i := 9) rfl)), List.forall_mem_cons.mpr ⟨(tk_4 _ (List.mem_of_getElem? (i := 10) rfl)), List.forall_mem_cons.mpr ⟨(tk_4 _ (List.mem_of_getElem? (i := 11) rfl)), List.forall_mem_cons.mpr ⟨(tk_4 _ (List.mem_of_getElem? (i := 14) rfl)), List.forall_mem_cons.mpr ⟨(pk_4 _ (List.mem_of_getElem? (i := 9) rfl)), List.forall_mem_cons.mpr ⟨(tk_4 _ (List.mem_of_getElem? (i := 15) rfl)), List.forall_mem_cons.mpr ⟨(tk_5 _ (List.mem_of_getElem? (i := 207) rfl)), fun _ h => absurd h List.not_mem_nil⟩⟩⟩⟩⟩⟩⟩⟩⟩⟩⟩⟩⟩⟩⟩⟩⟩⟩⟩⟩⟩⟩⟩⟩
set_option maxRecDepth 100000 in
theorem it_wsL_law_r39 : ∀ w ∈ wsL_law_r39, w ∈ lw_tbl := List.forall_mem_cons.mpr ⟨(tk_5 _ (List.mem_of_getElem? (i := 208) rfl)), List.forall_mem_cons.mpr ⟨(tk_5 _ (List.mem_of_getElem? (i := 209) rfl)), List.forall_mem_cons.mpr ⟨(tk_5 _ (List.mem_of_getElem? (i := 210) rfl)), List.forall_mem_cons.mpr ⟨(tk_5 _ (List.mem_of_getElem? (i := 211) rfl)), List.forall_mem_cons.mpr ⟨(tk_5 _ (List.mem_of_getElem? (i := 213) rfl)), List.forall_mem_cons.mpr ⟨(pk_7 _ (List.mem_of_getElem? (i := 0) rfl)), List.forall_mem_cons.mpr ⟨(tk_5 _ (List.mem_of_getElem? (i := 214) rfl)), List.forall_mem_cons.mpr ⟨(tk_4 _ (List.mem_of_getElem? (i := 16) rfl)), List.forall_mem_cons.mpr ⟨(tk_4 _ (List.mem_of_getElem? (i := 17) rfl)), List.forall_mem_cons.mpr ⟨(tk_4 _ (List.mem_of_getElem? (i := 18) rfl)), List.forall_mem_cons.mpr ⟨(tk_4 _ (List.mem_of_getElem? (i := 19) rfl)), List.forall_mem_cons.mpr ⟨(tk_5 _ (List.mem_of_getElem? (i := 215) rfl)), List.forall_mem_cons.mpr ⟨(tk_5 _ (List.mem_of_getElem? (i := 216) rfl)), List.forall_mem_cons.mpr ⟨(tk_5 _ (List.mem_of_getElem? (i := 217) rfl)), List.forall_mem_cons.mpr ⟨(tk_5 _ (List.mem_of_getElem? (i := 218) rfl)), fun _ h => absurd h List.not_mem_nil⟩⟩⟩⟩⟩⟩⟩⟩⟩⟩⟩⟩⟩⟩⟩
set_option maxRecDepth 100000 in
theorem it_wsX70 : ∀ w ∈ wsX70, w ∈ lw_tbl := (show ∀ w ∈ [u_lay RX7 TX7 0, u_lay RX7 TX7 1, u_lay RX7 TX7 2, u_lay RX7 TX7 3, u_lay RX7 TX7 4, u_lay RX7 TX7 5, u_lay RX7 TX7 6, u_lay RX7 TX7 7], w ∈ lw_tbl from List.forall_mem_cons.mpr ⟨(tk_2 _ (List.mem_of_getElem? (i := 15) rfl)), List.forall_mem_cons.mpr ⟨(tk_2 _ (List.mem_of_getElem? (i := 17) rfl)), List.forall_mem_cons.mpr ⟨(tk_2 _ (List.mem_of_getElem? (i := 19) rfl)), List.forall_mem_cons.mpr ⟨(tk_2 _ (List.mem_of_getElem? (i := 21) rfl)), List.forall_mem_cons.mpr ⟨(tk_2 _ (List.mem_of_getElem? (i := 23) rfl)), List.forall_mem_cons.mpr ⟨(tk_2 _ (List.mem_of_getElem? (i := 25) rfl)), List.forall_mem_cons.mpr ⟨(tk_2 _ (List.mem_of_getElem? (i := 27) rfl)), List.forall_mem_cons.mpr ⟨(tk_2 _ (List.mem_of_getElem? (i := 29) rfl)), fun _ h => absurd h List.not_mem_nil⟩⟩⟩⟩⟩⟩⟩⟩)
set_option maxRecDepth 100000 in
theorem it_wsX80 : ∀ w ∈ wsX80, w ∈ lw_tbl := (show ∀ w ∈ [u_lay RX8 TX8 0, u_lay RX8 TX8 1, u_lay RX8 TX8 2, u_lay RX8 TX8 3, u_lay RX8 TX8 4, u_lay RX8 TX8 5, u_lay RX8 TX8 6, u_lay RX8 TX8 7, u_lay RX8 TX8 8, u_lay RX8 TX8 9, u_lay RX8 TX8 10, u_lay RX8 TX8 11, u_lay RX8 TX8 12, u_lay RX8 TX8 13, u_lay RX8 TX8 14, u_lay RX8 TX8 15, u_lay RX8 TX8 16, u_lay RX8 TX8 17, u_lay RX8 TX8 18, u_lay RX8 TX8 19, u_lay RX8 TX8 20, u_lay RX8 TX8 21, u_lay RX8 TX8 22, u_lay RX8 TX8 23], w ∈ lw_tbl from List.forall_mem_cons.mpr ⟨(tk_4 _ (List.mem_of_getElem? (i := 50) rfl)), List.forall_mem_cons.mpr ⟨(tk_4 _ (List.mem_of_getElem? (i := 52) rfl)), List.forall_mem_cons.mpr ⟨(tk_4 _ (List.mem_of_getElem? (i := 54) rfl)), List.forall_mem_cons.mpr ⟨(tk_4 _ (List.mem_of_getElem? (i := 56) rfl)), List.forall_mem_cons.mpr ⟨(tk_4 _ (List.mem_of_getElem? (i := 58) rfl)), List.forall_mem_cons.mpr ⟨(tk_4 _ (List.mem_of_getElem? (i := 60) rfl)), List.forall_mem_cons.mpr ⟨(tk_4 _ (List.mem_of_getElem? (i := 62) rfl)), List.forall_mem_cons.mpr ⟨(tk_4 _ (List.mem_of_getElem? (i := 64) rfl)), List.forall_mem_cons.mpr ⟨(tk_4 _ (List.mem_of_getElem? (i := 66) rfl)), List.forall_mem_cons.mpr ⟨(tk_4 _ (List.mem_of_getElem? (i := 68) rfl)), List.forall_mem_cons.mpr ⟨(tk_4 _ (List.mem_of_getElem? (i := 70) rfl)), List.forall_mem_cons.mpr ⟨(tk_4 _ (List.mem_of_getElem? (i := 72) rfl)), List.forall_mem_cons.mpr ⟨(tk_4 _ (List.mem_of_getElem? (i := 74) rfl)), List.forall_mem_cons.mpr ⟨(tk_4 _ (List.mem_of_getElem? (i := 76) rfl)), List.forall_mem_cons.mpr ⟨(tk_4 _ (List.mem_of_getElem? (i := 78) rfl)), List.forall_mem_cons.mpr ⟨(tk_4 _ (List.mem_of_getElem? (i := 80) rfl)), List.forall_mem_cons.mpr ⟨(tk_4 _ (List.mem_of_getElem? (i := 82) rfl)), List.forall_mem_cons.mpr ⟨(tk_4 _ (List.mem_of_getElem? (i := 84) rfl)), List.forall_mem_cons.mpr ⟨(tk_4 _ (List.mem_of_getElem? (i := 86) rfl)), List.forall_mem_cons.mpr ⟨(tk_4 _ (List.mem_of_getElem? (i := 88) rfl)), List.forall_mem_cons.mpr ⟨(tk_4 _ (List.mem_of_getElem? (i := 90) rfl)), List.forall_mem_cons.mpr ⟨(tk_4 _ (List.mem_of_getElem? (i := 92) rfl)), List.forall_mem_cons.mpr ⟨(tk_4 _ (List.mem_of_getElem? (i := 94) rfl)), List.forall_mem_cons.mpr ⟨(tk_4 _ (List.mem_of_getElem? (i := 96) rfl)), fun _ h => absurd h List.not_mem_nil⟩⟩⟩⟩⟩⟩⟩⟩⟩⟩⟩⟩⟩⟩⟩⟩⟩⟩⟩⟩⟩⟩⟩⟩)
set_option maxRecDepth 100000 in
theorem it_wsX60 : ∀ w ∈ wsX60, w ∈ lw_tbl := (show ∀ w ∈ [u_lay RX6 TX6 0, u_lay RX6 TX6 1, u_lay RX6 TX6 2, u_lay RX6 TX6 3, u_lay RX6 TX6 4, u_lay RX6 TX6 5, u_lay RX6 TX6 6, u_lay RX6 TX6 7], w ∈ lw_tbl from List.forall_mem_cons.mpr ⟨(tk_1 _ (List.mem_of_getElem? (i := 157) rfl)), List.forall_mem_cons.mpr ⟨(tk_1 _ (List.mem_of_getElem? (i := 159) rfl)), List.forall_mem_cons.mpr ⟨(tk_1 _ (List.mem_of_getElem? (i := 161) rfl)), List.forall_mem_cons.mpr ⟨(tk_1 _ (List.mem_of_getElem? (i := 163) rfl)), List.forall_mem_cons.mpr ⟨(tk_1 _ (List.mem_of_getElem? (i := 165) rfl)), List.forall_mem_cons.mpr ⟨(tk_1 _ (List.mem_of_getElem? (i := 167) rfl)), List.forall_mem_cons.mpr ⟨(tk_1 _ (List.mem_of_getElem? (i := 169) rfl)), List.forall_mem_cons.mpr ⟨(tk_1 _ (List.mem_of_getElem? (i := 171) rfl)), fun _ h => absurd h List.not_mem_nil⟩⟩⟩⟩⟩⟩⟩⟩)
set_option maxRecDepth 100000 in
theorem it_wsX00 : ∀ w ∈ wsX00, w ∈ lw_tbl := (show ∀ w ∈ [u_lay RX0 TX0 0, u_lay RX0 TX0 1, u_lay RX0 TX0 2, u_lay RX0 TX0 3, u_lay RX0 TX0 4, u_lay RX0 TX0 5, u_lay RX0 TX0 6, u_lay RX0 TX0 7, u_lay RX0 TX0 8], w ∈ lw_tbl from List.forall_mem_cons.mpr ⟨(tk_1 _ (List.mem_of_getElem? (i := 118) rfl)), List.forall_mem_cons.mpr ⟨(tk_1 _ (List.mem_of_getElem? (i := 120) rfl)), List.forall_mem_cons.mpr ⟨(tk_1 _ (List.mem_of_getElem? (i := 122) rfl)), List.forall_mem_cons.mpr ⟨(tk_1 _ (List.mem_of_getElem? (i := 124) rfl)), List.forall_mem_cons.mpr ⟨(tk_1 _ (List.mem_of_getElem? (i := 126) rfl)), List.forall_mem_cons.mpr ⟨(tk_1 _ (List.mem_of_getElem? (i := 128) rfl)), List.forall_mem_cons.mpr ⟨(tk_1 _ (List.mem_of_getElem? (i := 130) rfl)), List.forall_mem_cons.mpr ⟨(tk_1 _ (List.mem_of_getElem? (i := 132) rfl)), List.forall_mem_cons.mpr ⟨(tk_1 _ (List.mem_of_getElem? (i := 134) rfl)), fun _ h => absurd h List.not_mem_nil⟩⟩⟩⟩⟩⟩⟩⟩⟩)
set_option maxRecDepth 100000 in
theorem it_wsX20 : ∀ w ∈ wsX20, w ∈ lw_tbl := (show ∀ w ∈ [u_lay RX2 TX2 0, u_lay RX2 TX2 1, u_lay RX2 TX2 2, u_lay RX2 TX2 3, u_lay RX2 TX2 4], w ∈ lw_tbl from List.forall_mem_cons.mpr ⟨(tk_1 _ (List.mem_of_getElem? (i := 190) rfl)), List.forall_mem_cons.mpr ⟨(tk_1 _ (List.mem_of_getElem? (i := 192) rfl)), List.forall_mem_cons.mpr ⟨(tk_1 _ (List.mem_of_getElem? (i := 194) rfl)), List.forall_mem_cons.mpr ⟨(tk_1 _ (List.mem_of_getElem? (i := 196) rfl)), List.forall_mem_cons.mpr ⟨(tk_1 _ (List.mem_of_getElem? (i := 198) rfl)), fun _ h => absurd h List.not_mem_nil⟩⟩⟩⟩⟩)
set_option maxRecDepth 100000 in
theorem it_wsX50 : ∀ w ∈ wsX50, w ∈ lw_tbl := (show ∀ w ∈ [u_lay RX5 TX5 0, u_lay RX5 TX5 1, u_lay RX5 TX5 2, u_lay RX5 TX5 3, u_lay RX5 TX5 4], w ∈ lw_tbl from List.forall_mem_cons.mpr ⟨(tk_1 _ (List.mem_of_getElem? (i := 214) rfl)), List.forall_mem_cons.mpr ⟨(tk_1 _ (List.mem_of_getElem? (i := 216) rfl)), List.forall_mem_cons.mpr ⟨(tk_1 _ (List.mem_of_getElem? (i := 218) rfl)), List.forall_mem_cons.mpr ⟨(tk_1 _ (List.mem_of_getElem? (i := 220) rfl)), List.forall_mem_cons.mpr ⟨(tk_1 _ (List.mem_of_getElem? (i := 222) rfl)), fun _ h => absurd h List.not_mem_nil⟩⟩⟩⟩⟩)
set_option maxRecDepth 100000 in
theorem it_wsX30 : ∀ w ∈ wsX30, w ∈ lw_tbl := (show ∀ w ∈ [u_lay RX3 TX3 0, u_lay RX3 TX3 1, u_lay RX3 TX3 2], w ∈ lw_tbl from List.forall_mem_cons.mpr ⟨(tk_2 _ (List.mem_of_getElem? (i := 0) rfl)), List.forall_mem_cons.mpr ⟨(tk_2 _ (List.mem_of_getElem? (i := 2) rfl)), List.forall_mem_cons.mpr ⟨(tk_2 _ (List.mem_of_getElem? (i := 4) rfl)), fun _ h => absurd h List.not_mem_nil⟩⟩⟩)
set_option maxRecDepth 100000 in
theorem it_wsX40 : ∀ w ∈ wsX40, w ∈ lw_tbl := (show ∀ w ∈ [u_lay RX4 TX4 0, u_lay RX4 TX4 1, u_lay RX4 TX4 2, u_lay RX4 TX4 3, u_lay RX4 TX4 4, u_lay RX4 TX4 5], w ∈ lw_tbl from List.forall_mem_cons.mpr ⟨(tk_1 _ (List.mem_of_getElem? (i := 40) rfl)), List.forall_mem_cons.mpr ⟨(tk_1 _ (List.mem_of_getElem? (i := 42) rfl)), List.forall_mem_cons.mpr ⟨(tk_1 _ (List.mem_of_getElem? (i := 44) rfl)), List.forall_mem_cons.mpr ⟨(tk_1 _ (List.mem_of_getElem? (i := 46) rfl)), List.forall_mem_cons.mpr ⟨(tk_1 _ (List.mem_of_getElem? (i := 48) rfl)), List.forall_mem_cons.mpr ⟨(tk_1 _ (List.mem_of_getElem? (i := 50) rfl)), fun _ h => absurd h List.not_mem_nil⟩⟩⟩⟩⟩⟩)
set_option maxRecDepth 100000 in
theorem it_wsX10 : ∀ w ∈ wsX10, w ∈ lw_tbl := (show ∀ w ∈ [u_lay RX1 TX1 0, u_lay RX1 TX1 1, u_lay RX1 TX1 2, u_lay RX1 TX1 3, u_lay RX1 TX1 4, u_lay RX1 TX1 5, u_lay RX1 TX1 6], w ∈ lw_tbl from List.forall_mem_cons.mpr ⟨(tk_1 _ (List.mem_of_getElem? (i := 87) rfl)), List.forall_mem_cons.mpr ⟨(tk_1 _ (List.mem_of_getElem? (i := 89) rfl)), List.forall_mem_cons.mpr ⟨(tk_1 _ (List.mem_of_getElem? (i := 91) rfl)), List.forall_mem_cons.mpr ⟨(tk_1 _ (List.mem_of_getElem? (i := 93) rfl)), List.forall_mem_cons.mpr ⟨(tk_1 _ (List.mem_of_getElem? (i := 95) rfl)), List.forall_mem_cons.mpr ⟨(tk_1 _ (List.mem_of_getElem? (i := 97) rfl)), List.forall_mem_cons.mpr ⟨(tk_1 _ (List.mem_of_getElem? (i := 99) rfl)), fun _ h => absurd h List.not_mem_nil⟩⟩⟩⟩⟩⟩⟩)
theorem wsL_law_in : ∀ w ∈ wsL_law, w ∈ lw_tbl := by
  intro w h
  rcases List.mem_append.mp h with h | h
  · rcases List.mem_append.mp h with h | h
    · rcases List.mem_append.mp h with h | h
      · rcases List.mem_append.mp h with h | h
        · rcases List.mem_append.mp h with h | h
          · rcases List.mem_append.mp h with h | h
            · rcases List.mem_append.mp h with h | h
              · rcases List.mem_append.mp h with h | h
                · rcases List.mem_append.mp h with h | h
                  · rcases List.mem_append.mp h with h | h
                    · rcases List.mem_append.mp h with h | h
                      · exact it_wsL_law_r1 w h
                      rcases List.mem_append.mp h with h | h
                      · exact it_wsL_law_r2 w h
                      rcases List.mem_append.mp h with h | h
                      · exact it_wsL_law_r3 w h
                      rcases List.mem_append.mp h with h | h
                      · exact it_wsL_law_r4 w h
                      rcases List.mem_append.mp h with h | h
                      · exact it_wsL_law_r5 w h
                      rcases List.mem_append.mp h with h | h
                      · exact it_wsL_law_r6 w h
                      rcases List.mem_append.mp h with h | h
                      · exact it_wsL_law_r7 w h
                      rcases List.mem_append.mp h with h | h
                      · exact it_wsL_law_r8 w h
                      rcases List.mem_append.mp h with h | h
                      · exact it_wsL_law_r9 w h
                      rcases List.mem_append.mp h with h | h
                      · exact it_wsL_law_r10 w h
                      rcases List.mem_append.mp h with h | h
                      · exact it_wsL_law_r11 w h
                      rcases List.mem_append.mp h with h | h
                      · exact it_wsL_law_r12 w h
                      rcases List.mem_append.mp h with h | h
                      · exact it_wsL_law_r13 w h
                      rcases List.mem_append.mp h with h | h
                      · exact it_wsL_law_r14 w h
                      rcases List.mem_append.mp h with h | h
                      · exact it_wsL_law_r15 w h
                      rcases List.mem_append.mp h with h | h
                      · exact it_wsL_law_r16 w h
                      rcases List.mem_append.mp h with h | h
                      · exact it_wsL_law_r17 w h
                      rcases List.mem_append.mp h with h | h
                      · exact it_wsL_law_r18 w h
                      rcases List.mem_append.mp h with h | h
                      · exact it_wsL_law_r19 w h
                      rcases List.mem_append.mp h with h | h
                      · exact it_wsL_law_r20 w h
                      rcases List.mem_append.mp h with h | h
                      · exact it_wsL_law_r21 w h
                      rcases List.mem_append.mp h with h | h
                      · exact it_wsL_law_r22 w h
                      rcases List.mem_append.mp h with h | h
                      · exact it_wsL_law_r23 w h
                      rcases List.mem_append.mp h with h | h
                      · exact it_wsL_law_r24 w h
                      rcases List.mem_append.mp h with h | h
                      · exact it_wsL_law_r25 w h
                      rcases List.mem_append.mp h with h | h
                      · exact it_wsL_law_r26 w h
                      rcases List.mem_append.mp h with h | h
                      · exact it_wsL_law_r27 w h
                      rcases List.mem_append.mp h with h | h
                      · exact it_wsL_law_r28 w h
                      rcases List.mem_append.mp h with h | h
                      · exact it_wsL_law_r29 w h
                      rcases List.mem_append.mp h with h | h
                      · exact it_wsL_law_r30 w h
                      rcases List.mem_append.mp h with h | h
                      · exact it_wsL_law_r31 w h
                      rcases List.mem_append.mp h with h | h
                      · exact it_wsL_law_r32 w h
                      rcases List.mem_append.mp h with h | h
                      · exact it_wsL_law_r33 w h
                      rcases List.mem_append.mp h with h | h
                      · exact it_wsL_law_r34 w h
                      rcases List.mem_append.mp h with h | h
                      · exact it_wsL_law_r35 w h
                      rcases List.mem_append.mp h with h | h
                      · exact it_wsL_law_r36 w h
                      rcases List.mem_append.mp h with h | h
                      · exact it_wsL_law_r37 w h
                      rcases List.mem_append.mp h with h | h
                      · exact it_wsL_law_r38 w h
                      exact it_wsL_law_r39 w h
                    · exact it_wsX70 w h
                  · exact it_wsX80 w h
                · exact it_wsX60 w h
              · exact it_wsX00 w h
            · exact it_wsX20 w h
          · exact it_wsX50 w h
        · exact it_wsX30 w h
      · exact it_wsX40 w h
    · exact it_wsX10 w h
  · exact absurd h List.not_mem_nil
theorem inX0 : ∀ w ∈ wsX00, w ∈ lw_tbl := fun w h => wsL_law_in w (inlX0 w h)
theorem inX1 : ∀ w ∈ wsX10, w ∈ lw_tbl := fun w h => wsL_law_in w (inlX1 w h)
theorem inX2 : ∀ w ∈ wsX20, w ∈ lw_tbl := fun w h => wsL_law_in w (inlX2 w h)
theorem inX3 : ∀ w ∈ wsX30, w ∈ lw_tbl := fun w h => wsL_law_in w (inlX3 w h)
theorem inX4 : ∀ w ∈ wsX40, w ∈ lw_tbl := fun w h => wsL_law_in w (inlX4 w h)
theorem inX5 : ∀ w ∈ wsX50, w ∈ lw_tbl := fun w h => wsL_law_in w (inlX5 w h)
theorem inX6 : ∀ w ∈ wsX60, w ∈ lw_tbl := fun w h => wsL_law_in w (inlX6 w h)
theorem inX7 : ∀ w ∈ wsX70, w ∈ lw_tbl := fun w h => wsL_law_in w (inlX7 w h)
theorem inX8 : ∀ w ∈ wsX80, w ∈ lw_tbl := fun w h => wsL_law_in w (inlX8 w h)
set_option maxRecDepth 100000 in
theorem AW_good : AW.all goodWord = true := by decide +kernel
set_option maxRecDepth 100000 in
theorem NWF_in : ∀ q ∈ NWF, nwf q ∈ lw_tbl := List.forall_mem_cons.mpr ⟨(tk_1 _ (List.mem_of_getElem? (i := 38) rfl)), List.forall_mem_cons.mpr ⟨(tk_1 _ (List.mem_of_getElem? (i := 68) rfl)), List.forall_mem_cons.mpr ⟨(tk_1 _ (List.mem_of_getElem? (i := 70) rfl)), List.forall_mem_cons.mpr ⟨(tk_1 _ (List.mem_of_getElem? (i := 71) rfl)), List.forall_mem_cons.mpr ⟨(tk_1 _ (List.mem_of_getElem? (i := 73) rfl)), List.forall_mem_cons.mpr ⟨(tk_1 _ (List.mem_of_getElem? (i := 74) rfl)), List.forall_mem_cons.mpr ⟨(tk_1 _ (List.mem_of_getElem? (i := 76) rfl)), List.forall_mem_cons.mpr ⟨(tk_1 _ (List.mem_of_getElem? (i := 77) rfl)), List.forall_mem_cons.mpr ⟨(tk_1 _ (List.mem_of_getElem? (i := 79) rfl)), List.forall_mem_cons.mpr ⟨(tk_1 _ (List.mem_of_getElem? (i := 80) rfl)), List.forall_mem_cons.mpr ⟨(tk_1 _ (List.mem_of_getElem? (i := 82) rfl)), List.forall_mem_cons.mpr ⟨(tk_1 _ (List.mem_of_getElem? (i := 83) rfl)), List.forall_mem_cons.mpr ⟨(tk_1 _ (List.mem_of_getElem? (i := 85) rfl)), List.forall_mem_cons.mpr ⟨(tk_1 _ (List.mem_of_getElem? (i := 86) rfl)), List.forall_mem_cons.mpr ⟨(tk_1 _ (List.mem_of_getElem? (i := 105) rfl)), List.forall_mem_cons.mpr ⟨(tk_1 _ (List.mem_of_getElem? (i := 107) rfl)), List.forall_mem_cons.mpr ⟨(tk_1 _ (List.mem_of_getElem? (i := 109) rfl)), List.forall_mem_cons.mpr ⟨(tk_1 _ (List.mem_of_getElem? (i := 111) rfl)), List.forall_mem_cons.mpr ⟨(tk_1 _ (List.mem_of_getElem? (i := 113) rfl)), List.forall_mem_cons.mpr ⟨(tk_1 _ (List.mem_of_getElem? (i := 115) rfl)), List.forall_mem_cons.mpr ⟨(tk_1 _ (List.mem_of_getElem? (i := 117) rfl)), List.forall_mem_cons.mpr ⟨(tk_1 _ (List.mem_of_getElem? (i := 142) rfl)), List.forall_mem_cons.mpr ⟨(tk_1 _ (List.mem_of_getElem? (i := 144) rfl)), List.forall_mem_cons.mpr ⟨(tk_1 _ (List.mem_of_getElem? (i := 146) rfl)), List.forall_mem_cons.mpr ⟨(tk_1 _ (List.mem_of_getElem? (i := 148) rfl)), List.forall_mem_cons.mpr ⟨(tk_1 _ (List.mem_of_getElem? (i := 150) rfl)), List.forall_mem_cons.mpr ⟨(tk_1 _ (List.mem_of_getElem? (i := 152) rfl)), List.forall_mem_cons.mpr ⟨(tk_1 _ (List.mem_of_getElem? (i := 154) rfl)), List.forall_mem_cons.mpr ⟨(tk_1 _ (List.mem_of_getElem? (i := 156) rfl)), List.forall_mem_cons.mpr ⟨(tk_1 _ (List.mem_of_getElem? (i := 185) rfl)), List.forall_mem_cons.mpr ⟨(tk_1 _ (List.mem_of_getElem? (i := 208) rfl)), List.forall_mem_cons.mpr ⟨(tk_1 _ (List.mem_of_getElem? (i := 210) rfl)), List.forall_mem_cons.mpr ⟨(tk_1 _ (List.mem_of_getElem? (i := 233) rfl)), List.forall_mem_cons.mpr ⟨(tk_1 _ (List.mem_of_getElem? (i := 234) rfl)), List.forall_mem_cons.mpr ⟨(tk_1 _ (List.mem_of_getElem? (i := 236) rfl)), List.forall_mem_cons.mpr ⟨(tk_1 _ (List.mem_of_getElem? (i := 238) rfl)), List.forall_mem_cons.mpr ⟨(tk_1 _ (List.mem_of_getElem? (i := 239) rfl)), List.forall_mem_cons.mpr ⟨(tk_2 _ (List.mem_of_getElem? (i := 138) rfl)), fun _ h => absurd h List.not_mem_nil⟩⟩⟩⟩⟩⟩⟩⟩⟩⟩⟩⟩⟩⟩⟩⟩⟩⟩⟩⟩⟩⟩⟩⟩⟩⟩⟩⟩⟩⟩⟩⟩⟩⟩⟩⟩⟩⟩
set_option maxRecDepth 100000 in
theorem NWM_in : ∀ q ∈ NWM, nwm q ∈ lw_tbl := List.forall_mem_cons.mpr ⟨(tk_1 _ (List.mem_of_getElem? (i := 23) rfl)), List.forall_mem_cons.mpr ⟨(tk_1 _ (List.mem_of_getElem? (i := 29) rfl)), List.forall_mem_cons.mpr ⟨(tk_1 _ (List.mem_of_getElem? (i := 56) rfl)), List.forall_mem_cons.mpr ⟨(tk_1 _ (List.mem_of_getElem? (i := 63) rfl)), List.forall_mem_cons.mpr ⟨(tk_1 _ (List.mem_of_getElem? (i := 137) rfl)), List.forall_mem_cons.mpr ⟨(tk_1 _ (List.mem_of_getElem? (i := 175) rfl)), List.forall_mem_cons.mpr ⟨(tk_1 _ (List.mem_of_getElem? (i := 178) rfl)), List.forall_mem_cons.mpr ⟨(tk_1 _ (List.mem_of_getElem? (i := 183) rfl)), List.forall_mem_cons.mpr ⟨(tk_1 _ (List.mem_of_getElem? (i := 203) rfl)), List.forall_mem_cons.mpr ⟨(tk_1 _ (List.mem_of_getElem? (i := 228) rfl)), List.forall_mem_cons.mpr ⟨(tk_2 _ (List.mem_of_getElem? (i := 49) rfl)), List.forall_mem_cons.mpr ⟨(tk_2 _ (List.mem_of_getElem? (i := 57) rfl)), List.forall_mem_cons.mpr ⟨(tk_2 _ (List.mem_of_getElem? (i := 69) rfl)), List.forall_mem_cons.mpr ⟨(tk_2 _ (List.mem_of_getElem? (i := 81) rfl)), List.forall_mem_cons.mpr ⟨(tk_2 _ (List.mem_of_getElem? (i := 85) rfl)), List.forall_mem_cons.mpr ⟨(tk_2 _ (List.mem_of_getElem? (i := 102) rfl)), List.forall_mem_cons.mpr ⟨(tk_2 _ (List.mem_of_getElem? (i := 107) rfl)), List.forall_mem_cons.mpr ⟨(tk_2 _ (List.mem_of_getElem? (i := 111) rfl)), List.forall_mem_cons.mpr ⟨(tk_2 _ (List.mem_of_getElem? (i := 122) rfl)), List.forall_mem_cons.mpr ⟨(tk_2 _ (List.mem_of_getElem? (i := 134) rfl)), List.forall_mem_cons.mpr ⟨(tk_2 _ (List.mem_of_getElem? (i := 149) rfl)), List.forall_mem_cons.mpr ⟨(tk_2 _ (List.mem_of_getElem? (i := 157) rfl)), List.forall_mem_cons.mpr ⟨(tk_2 _ (List.mem_of_getElem? (i := 173) rfl)), List.forall_mem_cons.mpr ⟨(tk_2 _ (List.mem_of_getElem? (i := 178) rfl)), List.forall_mem_cons.mpr ⟨(tk_2 _ (List.mem_of_getElem? (i := 201) rfl)), List.forall_mem_cons.mpr ⟨(tk_2 _ (List.mem_of_getElem? (i := 205) rfl)), List.forall_mem_cons.mpr ⟨(tk_2 _ (List.mem_of_getElem? (i := 214) rfl)), List.forall_mem_cons.mpr ⟨(tk_2 _ (List.mem_of_getElem? (i := 220) rfl)), List.forall_mem_cons.mpr ⟨(tk_2 _ (List.mem_of_getElem? (i := 239) rfl)), List.forall_mem_cons.mpr ⟨(tk_3 _ (List.mem_of_getElem? (i := 4) rfl)), List.forall_mem_cons.mpr ⟨(tk_3 _ (List.mem_of_getElem? (i := 5) rfl)), List.forall_mem_cons.mpr ⟨(tk_3 _ (List.mem_of_getElem? (i := 7) rfl)), List.forall_mem_cons.mpr ⟨(tk_3 _ (List.mem_of_getElem? (i := 25) rfl)), List.forall_mem_cons.mpr ⟨(tk_3 _ (List.mem_of_getElem? (i := 38) rfl)), List.forall_mem_cons.mpr ⟨(tk_3 _ (List.mem_of_getElem? (i := 42) rfl)), List.forall_mem_cons.mpr ⟨(tk_3 _ (List.mem_of_getElem? (i := 59) rfl)), List.forall_mem_cons.mpr ⟨(tk_3 _ (List.mem_of_getElem? (i := 72) rfl)), List.forall_mem_cons.mpr ⟨(tk_3 _ (List.mem_of_getElem? (i := 77) rfl)), List.forall_mem_cons.mpr ⟨(tk_3 _ (List.mem_of_getElem? (i := 100) rfl)), List.forall_mem_cons.mpr ⟨(tk_3 _ (List.mem_of_getElem? (i := 104) rfl)), List.forall_mem_cons.mpr ⟨(tk_3 _ (List.mem_of_getElem? (i := 123) rfl)), List.forall_mem_cons.mpr ⟨(tk_3 _ (List.mem_of_getElem? (i := 128) rfl)), List.forall_mem_cons.mpr ⟨(tk_3 _ (List.mem_of_getElem? (i := 140) rfl)), List.forall_mem_cons.mpr ⟨(tk_3 _ (List.mem_of_getElem? (i := 159) rfl)), List.forall_mem_cons.mpr ⟨(tk_3 _ (List.mem_of_getElem? (i := 163) rfl)), List.forall_mem_cons.mpr ⟨(tk_3 _ (List.mem_of_getElem? (i := 195) rfl)), List.forall_mem_cons.mpr ⟨(tk_3 _ (List.mem_of_getElem? (i := 203) rfl)), List.forall_mem_cons.mpr ⟨(tk_3 _ (List.mem_of_getElem? (i := 211) rfl)), List.forall_mem_cons.mpr ⟨(tk_3 _ (List.mem_of_getElem? (i := 229) rfl)), List.forall_mem_cons.mpr ⟨(tk_3 _ (List.mem_of_getElem? (i := 233) rfl)), List.forall_mem_cons.mpr ⟨(tk_3 _ (List.mem_of_getElem? (i := 234) rfl)), List.forall_mem_cons.mpr ⟨(tk_4 _ (List.mem_of_getElem? (i := 12) rfl)), fun _ h => absurd h List.not_mem_nil⟩⟩⟩⟩⟩⟩⟩⟩⟩⟩⟩⟩⟩⟩⟩⟩⟩⟩⟩⟩⟩⟩⟩⟩⟩⟩⟩⟩⟩⟩⟩⟩⟩⟩⟩⟩⟩⟩⟩⟩⟩⟩⟩⟩⟩⟩⟩⟩⟩⟩⟩⟩
end
section
abbrev wY : Type := ClassId × ClassId × ClassId
abbrev Mem : Type := Nat → Nat → Int32
def kdL : List Nat := [7, 6, 4, 9, 9, 9, 9, 4, 9, 9, 9, 9, 0, 10, 1, 1, 1, 1, 1, 1, 1, 1, 1, 9, 9, 6, 4, 9, 9, 9, 9, 4, 9, 9, 9, 9, 0, 10, 1, 1, 1, 1, 1, 1, 1, 1, 1, 9, 9, 0, 10, 1, 1, 1, 1, 1, 1, 1, 1, 1, 2, 4, 9, 9, 9, 9, 9, 5, 9, 11, 3, 9, 3, 9, 3, 9, 3, 9, 9, 8, 9, 9, 9, 9, 9, 9, 9, 9, 9, 9, 9, 9]
def lnL : List Nat := [0, 0, 0, 50, 50, 50, 50, 0, 50, 50, 50, 50, 0, 9, 0, 0, 0, 0, 0, 0, 0, 0, 0, 50, 20, 0, 0, 50, 50, 50, 50, 0, 50, 50, 50, 50, 0, 9, 0, 0, 0, 0, 0, 0, 0, 0, 0, 50, 20, 0, 9, 0, 0, 0, 0, 0, 0, 0, 0, 0, 0, 0, 50, 50, 50, 50, 50, 0, 40, 4, 0, 40, 0, 40, 0, 40, 0, 40, 6, 0, 244, 244, 244, 6, 50, 50, 3, 4, 4, 160, 40, 40]
def rfL : List (List Nat) := [[1, 25, 49, 60, 67, 69, 78], [2, 7, 12, 23, 24], [3, 4, 5, 6], [], [], [], [], [8, 9, 10, 11], [], [], [], [], [2, 7, 13], [14, 15, 16, 17, 18, 19, 20, 21, 22], [], [], [], [], [], [], [], [], [], [], [], [26, 31, 36, 47, 48], [27, 28, 29, 30], [], [], [], [], [32, 33, 34, 35], [], [], [], [], [26, 31, 37], [38, 39, 40, 41, 42, 43, 44, 45, 46], [], [], [], [], [], [], [], [], [], [], [], [2, 7, 50], [51, 52, 53, 54, 55, 56, 57, 58, 59], [], [], [], [], [], [], [], [], [], [61, 66], [62, 63, 64, 65], [], [], [], [], [], [68], [], [70, 72, 74, 76], [71], [], [73], [], [75], [], [77], [], [], [80, 81, 82, 0, 0, 83, 0, 0, 0, 0, 0, 0, 84, 85, 86, 87, 88, 89, 90, 91], [], [], [], [], [], [], [], [], [], [], [], []]
def kd (i : Nat) : Nat := kdL.getD i 99
def ln (i : Nat) : Nat := lnL.getD i 0
def rf (i k : Nat) : Nat := (rfL.getD i []).getD k 0
def up (M : Mem) (i k : Nat) (x : Int32) : Mem := fun b j => if b = i ∧ j = k then x else M b j
def upA (M : Mem) (i : Nat) (f : Nat → Int32) : Mem := fun b => if b = i then f else M b
theorem up_same {M : Mem} {i k : Nat} {x : Int32} : up M i k x i k = x := by simp [up]
theorem up_slot {M : Mem} {i k j : Nat} {x : Int32} (b : Nat) (h : j ≠ k) : up M i k x b j = M b j := by simp [up, h]
theorem up_cell {M : Mem} {i k j b : Nat} {x : Int32} (h : b ≠ i) : up M i k x b j = M b j := by simp [up, h]
theorem upA_same {M : Mem} {i : Nat} {f : Nat → Int32} : upA M i f i = f := by simp [upA]
theorem upA_cell {M : Mem} {i b : Nat} {f : Nat → Int32} (h : b ≠ i) : upA M i f b = M b := by simp [upA, h]
theorem ti_ne {x v : Int32} {n : Int} (hv : v.toInt = n) (h : ¬ x = v) : x.toInt ≠ n := fun e => h (Int32.toInt_inj.mp (e.trans hv.symm))
theorem ti_eq {x v : Int32} {n : Int} (hv : v.toInt = n) (h : x = v) : x.toInt = n := by rw [h, hv]
theorem ti_lt {x z : Int32} {a b : Int} (hx : x.toInt = a) (hz : z.toInt = b) (h : x < z) : a < b := by rw [← hx, ← hz]; exact Int32.lt_iff_toInt_lt.mp h
theorem ti_nlt {x z : Int32} {a b : Int} (hx : x.toInt = a) (hz : z.toInt = b) (h : ¬ x < z) : b ≤ a := by rw [← hx, ← hz]; exact Int.not_lt.mp (fun q => h (Int32.lt_iff_toInt_lt.mpr q))
theorem ti_le {x z : Int32} {a b : Int} (hx : x.toInt = a) (hz : z.toInt = b) (h : x ≤ z) : a ≤ b := by rw [← hx, ← hz]; exact Int32.le_iff_toInt_le.mp h
theorem ti_nle {x z : Int32} {a b : Int} (hx : x.toInt = a) (hz : z.toInt = b) (h : ¬ x ≤ z) : b < a := by rw [← hx, ← hz]; exact Int.not_le.mp (fun q => h (Int32.le_iff_toInt_le.mpr q))
theorem nI_oft {x : Int32} {n : Nat} (h0 : 0 ≤ x.toInt) (h1 : x.toInt ≤ n) (hn : n < 2 ^ 31) : ∃ j : Nat, j ≤ n ∧ x = nI j := ⟨x.toInt.toNat, by omega, Int32.toInt_inj.mp (by rw [nI_toInt (by omega)]; omega)⟩
/-- all stays but what P names -/
def sm (P : Nat → Nat → Bool) (M M1 : Mem) : Prop := ∀ b k, P b k = false → M1 b k = M b k
theorem sm_rf {P : Nat → Nat → Bool} {M : Mem} : sm P M M := fun _ _ _ => rfl
theorem sm_tr {P : Nat → Nat → Bool} {M M1 M2 : Mem} (h : sm P M M1) (h2 : sm P M1 M2) : sm P M M2 := fun b k hb => (h2 b k hb).trans (h b k hb)
theorem sm_up {P : Nat → Nat → Bool} {M M1 : Mem} {i k : Nat} {x : Int32} (h : sm P M M1) (hp : P i k = true) : sm P M (up M1 i k x) := by
  intro b j hb
  rw [← h b j hb]
  by_cases hc : b = i ∧ j = k
  · rw [hc.1, hc.2, hp] at hb; cases hb
  · simp [up, hc]
theorem sm_upA {P : Nat → Nat → Bool} {M M1 : Mem} {i : Nat} {f : Nat → Int32} (h : sm P M M1) (hp : ∀ j, P i j = true) : sm P M (upA M1 i f) := by
  intro b j hb
  rw [← h b j hb]
  by_cases hc : b = i
  · rw [hc, hp j] at hb; cases hb
  · simp [upA, hc]
theorem sm_w {P P2 : Nat → Nat → Bool} {M M1 : Mem} (h : sm P M M1) (hp : ∀ b k, P2 b k = false → P b k = false) : sm P2 M M1 := fun b k hb => h b k (hp b k hb)
/-- a cell of the world, by its number -/
def wE (y : wY) (ad : Nat → Nat) (M : Mem) (i : Nat) : va_E := match kd i with
  | 0 => .inr (0, [.ref (ad (rf i 0)), .ref (ad (rf i 1)), .ref (ad (rf i 2)), .int (M i 3), .int (M i 4), .int (M i 5), .int (M i 6), .int (M i 7), .int (M i 8)])
  | 1 => .inr (1, [.int (M i 0), .int (M i 1), .int (M i 2), .int (M i 3), .int (M i 4), .int (M i 5), .int (M i 6)])
  | 2 => .inr (2, [.ref (ad (rf i 0)), .ref (ad (rf i 1)), .int (M i 2), .int (M i 3), .int (M i 4)])
  | 3 => .inr (3, [.ref (ad (rf i 0)), .int (M i 1), .int (M i 2)])
  | 4 => .inr (4, [.ref (ad (rf i 0)), .ref (ad (rf i 1)), .ref (ad (rf i 2)), .ref (ad (rf i 3)), .int (M i 4), .int (M i 5)])
  | 5 => .inr (5, [.ref (ad (rf i 0)), .int (M i 1), .int (M i 2), .int (M i 3), .int (M i 4)])
  | 6 => .inr (6, [.ref (ad (rf i 0)), .ref (ad (rf i 1)), .ref (ad (rf i 2)), .ref (ad (rf i 3)), .ref (ad (rf i 4)), .int (M i 5), .int (M i 6), .int (M i 7)])
  | 7 => .inr (7, [.ref (ad (rf i 0)), .ref (ad (rf i 1)), .ref (ad (rf i 2)), .ref (ad (rf i 3)), .ref (ad (rf i 4)), .ref (ad (rf i 5)), .ref (ad (rf i 6)), .int (M i 7)])
  | 8 => .inr (8, [.ref (ad (rf i 0)), .ref (ad (rf i 1)), .ref (ad (rf i 2)), .int (M i 3), .int (M i 4), .ref (ad (rf i 5)), .int (M i 6), .int (M i 7), .int (M i 8), .int (M i 9), .int (M i 10), .int (M i 11), .ref (ad (rf i 12)), .ref (ad (rf i 13)), .ref (ad (rf i 14)), .ref (ad (rf i 15)), .ref (ad (rf i 16)), .ref (ad (rf i 17)), .ref (ad (rf i 18)), .ref (ad (rf i 19)), .int (M i 20), .int (M i 21), .int (M i 22), .int (M i 23)])
  | 9 => .inl (y.1, ln i, .inl (M i))
  | 10 => .inl (y.2.1, ln i, .inr (.inr (.inr (.inr (fun j => some (ad (rf i j)))))))
  | 11 => .inl (y.2.2, ln i, .inr (.inr (.inr (.inr (fun j => some (ad (rf i j)))))))
  | _ => .inl (y.1, 0, .inl (fun _ => 0))
theorem wE_0 {y : wY} {ad : Nat → Nat} (M : Mem) {i : Nat} (h : kd i = 0) : wE y ad M i = .inr (0, [.ref (ad (rf i 0)), .ref (ad (rf i 1)), .ref (ad (rf i 2)), .int (M i 3), .int (M i 4), .int (M i 5), .int (M i 6), .int (M i 7), .int (M i 8)]) := by simp only [wE, h]
theorem wE_1 {y : wY} {ad : Nat → Nat} (M : Mem) {i : Nat} (h : kd i = 1) : wE y ad M i = .inr (1, [.int (M i 0), .int (M i 1), .int (M i 2), .int (M i 3), .int (M i 4), .int (M i 5), .int (M i 6)]) := by simp only [wE, h]
theorem wE_2 {y : wY} {ad : Nat → Nat} (M : Mem) {i : Nat} (h : kd i = 2) : wE y ad M i = .inr (2, [.ref (ad (rf i 0)), .ref (ad (rf i 1)), .int (M i 2), .int (M i 3), .int (M i 4)]) := by simp only [wE, h]
theorem wE_3 {y : wY} {ad : Nat → Nat} (M : Mem) {i : Nat} (h : kd i = 3) : wE y ad M i = .inr (3, [.ref (ad (rf i 0)), .int (M i 1), .int (M i 2)]) := by simp only [wE, h]
theorem wE_4 {y : wY} {ad : Nat → Nat} (M : Mem) {i : Nat} (h : kd i = 4) : wE y ad M i = .inr (4, [.ref (ad (rf i 0)), .ref (ad (rf i 1)), .ref (ad (rf i 2)), .ref (ad (rf i 3)), .int (M i 4), .int (M i 5)]) := by simp only [wE, h]
theorem wE_5 {y : wY} {ad : Nat → Nat} (M : Mem) {i : Nat} (h : kd i = 5) : wE y ad M i = .inr (5, [.ref (ad (rf i 0)), .int (M i 1), .int (M i 2), .int (M i 3), .int (M i 4)]) := by simp only [wE, h]
theorem wE_6 {y : wY} {ad : Nat → Nat} (M : Mem) {i : Nat} (h : kd i = 6) : wE y ad M i = .inr (6, [.ref (ad (rf i 0)), .ref (ad (rf i 1)), .ref (ad (rf i 2)), .ref (ad (rf i 3)), .ref (ad (rf i 4)), .int (M i 5), .int (M i 6), .int (M i 7)]) := by simp only [wE, h]
theorem wE_7 {y : wY} {ad : Nat → Nat} (M : Mem) {i : Nat} (h : kd i = 7) : wE y ad M i = .inr (7, [.ref (ad (rf i 0)), .ref (ad (rf i 1)), .ref (ad (rf i 2)), .ref (ad (rf i 3)), .ref (ad (rf i 4)), .ref (ad (rf i 5)), .ref (ad (rf i 6)), .int (M i 7)]) := by simp only [wE, h]
theorem wE_8 {y : wY} {ad : Nat → Nat} (M : Mem) {i : Nat} (h : kd i = 8) : wE y ad M i = .inr (8, [.ref (ad (rf i 0)), .ref (ad (rf i 1)), .ref (ad (rf i 2)), .int (M i 3), .int (M i 4), .ref (ad (rf i 5)), .int (M i 6), .int (M i 7), .int (M i 8), .int (M i 9), .int (M i 10), .int (M i 11), .ref (ad (rf i 12)), .ref (ad (rf i 13)), .ref (ad (rf i 14)), .ref (ad (rf i 15)), .ref (ad (rf i 16)), .ref (ad (rf i 17)), .ref (ad (rf i 18)), .ref (ad (rf i 19)), .int (M i 20), .int (M i 21), .int (M i 22), .int (M i 23)]) := by simp only [wE, h]
theorem wE_9 {y : wY} {ad : Nat → Nat} (M : Mem) {i : Nat} (h : kd i = 9) : wE y ad M i = .inl (y.1, ln i, .inl (M i)) := by simp only [wE, h]
theorem wE_10 {y : wY} {ad : Nat → Nat} (M : Mem) {i : Nat} (h : kd i = 10) : wE y ad M i = .inl (y.2.1, ln i, .inr (.inr (.inr (.inr (fun j => some (ad (rf i j))))))) := by simp only [wE, h]
theorem wE_11 {y : wY} {ad : Nat → Nat} (M : Mem) {i : Nat} (h : kd i = 11) : wE y ad M i = .inl (y.2.2, ln i, .inr (.inr (.inr (.inr (fun j => some (ad (rf i j))))))) := by simp only [wE, h]
theorem wP_0_3 {y : wY} {ad : Nat → Nat} (M : Mem) {i : Nat} (x : Int32) (h : kd i = 0) : wE y ad (up M i 3 x) i = .inr (0, [.ref (ad (rf i 0)), .ref (ad (rf i 1)), .ref (ad (rf i 2)), .int (M i 3), .int (M i 4), .int (M i 5), .int (M i 6), .int (M i 7), .int (M i 8)].set 3 (.int x)) := by rw [wE_0 _ h]; simp [up]
theorem wP_0_4 {y : wY} {ad : Nat → Nat} (M : Mem) {i : Nat} (x : Int32) (h : kd i = 0) : wE y ad (up M i 4 x) i = .inr (0, [.ref (ad (rf i 0)), .ref (ad (rf i 1)), .ref (ad (rf i 2)), .int (M i 3), .int (M i 4), .int (M i 5), .int (M i 6), .int (M i 7), .int (M i 8)].set 4 (.int x)) := by rw [wE_0 _ h]; simp [up]
theorem wP_0_5 {y : wY} {ad : Nat → Nat} (M : Mem) {i : Nat} (x : Int32) (h : kd i = 0) : wE y ad (up M i 5 x) i = .inr (0, [.ref (ad (rf i 0)), .ref (ad (rf i 1)), .ref (ad (rf i 2)), .int (M i 3), .int (M i 4), .int (M i 5), .int (M i 6), .int (M i 7), .int (M i 8)].set 5 (.int x)) := by rw [wE_0 _ h]; simp [up]
theorem wP_0_6 {y : wY} {ad : Nat → Nat} (M : Mem) {i : Nat} (x : Int32) (h : kd i = 0) : wE y ad (up M i 6 x) i = .inr (0, [.ref (ad (rf i 0)), .ref (ad (rf i 1)), .ref (ad (rf i 2)), .int (M i 3), .int (M i 4), .int (M i 5), .int (M i 6), .int (M i 7), .int (M i 8)].set 6 (.int x)) := by rw [wE_0 _ h]; simp [up]
theorem wP_0_7 {y : wY} {ad : Nat → Nat} (M : Mem) {i : Nat} (x : Int32) (h : kd i = 0) : wE y ad (up M i 7 x) i = .inr (0, [.ref (ad (rf i 0)), .ref (ad (rf i 1)), .ref (ad (rf i 2)), .int (M i 3), .int (M i 4), .int (M i 5), .int (M i 6), .int (M i 7), .int (M i 8)].set 7 (.int x)) := by rw [wE_0 _ h]; simp [up]
theorem wP_0_8 {y : wY} {ad : Nat → Nat} (M : Mem) {i : Nat} (x : Int32) (h : kd i = 0) : wE y ad (up M i 8 x) i = .inr (0, [.ref (ad (rf i 0)), .ref (ad (rf i 1)), .ref (ad (rf i 2)), .int (M i 3), .int (M i 4), .int (M i 5), .int (M i 6), .int (M i 7), .int (M i 8)].set 8 (.int x)) := by rw [wE_0 _ h]; simp [up]
theorem wP_1_0 {y : wY} {ad : Nat → Nat} (M : Mem) {i : Nat} (x : Int32) (h : kd i = 1) : wE y ad (up M i 0 x) i = .inr (1, [.int (M i 0), .int (M i 1), .int (M i 2), .int (M i 3), .int (M i 4), .int (M i 5), .int (M i 6)].set 0 (.int x)) := by rw [wE_1 _ h]; simp [up]
theorem wP_1_1 {y : wY} {ad : Nat → Nat} (M : Mem) {i : Nat} (x : Int32) (h : kd i = 1) : wE y ad (up M i 1 x) i = .inr (1, [.int (M i 0), .int (M i 1), .int (M i 2), .int (M i 3), .int (M i 4), .int (M i 5), .int (M i 6)].set 1 (.int x)) := by rw [wE_1 _ h]; simp [up]
theorem wP_1_2 {y : wY} {ad : Nat → Nat} (M : Mem) {i : Nat} (x : Int32) (h : kd i = 1) : wE y ad (up M i 2 x) i = .inr (1, [.int (M i 0), .int (M i 1), .int (M i 2), .int (M i 3), .int (M i 4), .int (M i 5), .int (M i 6)].set 2 (.int x)) := by rw [wE_1 _ h]; simp [up]
theorem wP_1_3 {y : wY} {ad : Nat → Nat} (M : Mem) {i : Nat} (x : Int32) (h : kd i = 1) : wE y ad (up M i 3 x) i = .inr (1, [.int (M i 0), .int (M i 1), .int (M i 2), .int (M i 3), .int (M i 4), .int (M i 5), .int (M i 6)].set 3 (.int x)) := by rw [wE_1 _ h]; simp [up]
theorem wP_1_4 {y : wY} {ad : Nat → Nat} (M : Mem) {i : Nat} (x : Int32) (h : kd i = 1) : wE y ad (up M i 4 x) i = .inr (1, [.int (M i 0), .int (M i 1), .int (M i 2), .int (M i 3), .int (M i 4), .int (M i 5), .int (M i 6)].set 4 (.int x)) := by rw [wE_1 _ h]; simp [up]
theorem wP_1_5 {y : wY} {ad : Nat → Nat} (M : Mem) {i : Nat} (x : Int32) (h : kd i = 1) : wE y ad (up M i 5 x) i = .inr (1, [.int (M i 0), .int (M i 1), .int (M i 2), .int (M i 3), .int (M i 4), .int (M i 5), .int (M i 6)].set 5 (.int x)) := by rw [wE_1 _ h]; simp [up]
theorem wP_1_6 {y : wY} {ad : Nat → Nat} (M : Mem) {i : Nat} (x : Int32) (h : kd i = 1) : wE y ad (up M i 6 x) i = .inr (1, [.int (M i 0), .int (M i 1), .int (M i 2), .int (M i 3), .int (M i 4), .int (M i 5), .int (M i 6)].set 6 (.int x)) := by rw [wE_1 _ h]; simp [up]
theorem wP_2_2 {y : wY} {ad : Nat → Nat} (M : Mem) {i : Nat} (x : Int32) (h : kd i = 2) : wE y ad (up M i 2 x) i = .inr (2, [.ref (ad (rf i 0)), .ref (ad (rf i 1)), .int (M i 2), .int (M i 3), .int (M i 4)].set 2 (.int x)) := by rw [wE_2 _ h]; simp [up]
theorem wP_2_3 {y : wY} {ad : Nat → Nat} (M : Mem) {i : Nat} (x : Int32) (h : kd i = 2) : wE y ad (up M i 3 x) i = .inr (2, [.ref (ad (rf i 0)), .ref (ad (rf i 1)), .int (M i 2), .int (M i 3), .int (M i 4)].set 3 (.int x)) := by rw [wE_2 _ h]; simp [up]
theorem wP_2_4 {y : wY} {ad : Nat → Nat} (M : Mem) {i : Nat} (x : Int32) (h : kd i = 2) : wE y ad (up M i 4 x) i = .inr (2, [.ref (ad (rf i 0)), .ref (ad (rf i 1)), .int (M i 2), .int (M i 3), .int (M i 4)].set 4 (.int x)) := by rw [wE_2 _ h]; simp [up]
theorem wP_3_1 {y : wY} {ad : Nat → Nat} (M : Mem) {i : Nat} (x : Int32) (h : kd i = 3) : wE y ad (up M i 1 x) i = .inr (3, [.ref (ad (rf i 0)), .int (M i 1), .int (M i 2)].set 1 (.int x)) := by rw [wE_3 _ h]; simp [up]
theorem wP_3_2 {y : wY} {ad : Nat → Nat} (M : Mem) {i : Nat} (x : Int32) (h : kd i = 3) : wE y ad (up M i 2 x) i = .inr (3, [.ref (ad (rf i 0)), .int (M i 1), .int (M i 2)].set 2 (.int x)) := by rw [wE_3 _ h]; simp [up]
theorem wP_4_4 {y : wY} {ad : Nat → Nat} (M : Mem) {i : Nat} (x : Int32) (h : kd i = 4) : wE y ad (up M i 4 x) i = .inr (4, [.ref (ad (rf i 0)), .ref (ad (rf i 1)), .ref (ad (rf i 2)), .ref (ad (rf i 3)), .int (M i 4), .int (M i 5)].set 4 (.int x)) := by rw [wE_4 _ h]; simp [up]
theorem wP_4_5 {y : wY} {ad : Nat → Nat} (M : Mem) {i : Nat} (x : Int32) (h : kd i = 4) : wE y ad (up M i 5 x) i = .inr (4, [.ref (ad (rf i 0)), .ref (ad (rf i 1)), .ref (ad (rf i 2)), .ref (ad (rf i 3)), .int (M i 4), .int (M i 5)].set 5 (.int x)) := by rw [wE_4 _ h]; simp [up]
theorem wP_5_1 {y : wY} {ad : Nat → Nat} (M : Mem) {i : Nat} (x : Int32) (h : kd i = 5) : wE y ad (up M i 1 x) i = .inr (5, [.ref (ad (rf i 0)), .int (M i 1), .int (M i 2), .int (M i 3), .int (M i 4)].set 1 (.int x)) := by rw [wE_5 _ h]; simp [up]
theorem wP_5_2 {y : wY} {ad : Nat → Nat} (M : Mem) {i : Nat} (x : Int32) (h : kd i = 5) : wE y ad (up M i 2 x) i = .inr (5, [.ref (ad (rf i 0)), .int (M i 1), .int (M i 2), .int (M i 3), .int (M i 4)].set 2 (.int x)) := by rw [wE_5 _ h]; simp [up]
theorem wP_5_3 {y : wY} {ad : Nat → Nat} (M : Mem) {i : Nat} (x : Int32) (h : kd i = 5) : wE y ad (up M i 3 x) i = .inr (5, [.ref (ad (rf i 0)), .int (M i 1), .int (M i 2), .int (M i 3), .int (M i 4)].set 3 (.int x)) := by rw [wE_5 _ h]; simp [up]
theorem wP_5_4 {y : wY} {ad : Nat → Nat} (M : Mem) {i : Nat} (x : Int32) (h : kd i = 5) : wE y ad (up M i 4 x) i = .inr (5, [.ref (ad (rf i 0)), .int (M i 1), .int (M i 2), .int (M i 3), .int (M i 4)].set 4 (.int x)) := by rw [wE_5 _ h]; simp [up]
theorem wP_6_5 {y : wY} {ad : Nat → Nat} (M : Mem) {i : Nat} (x : Int32) (h : kd i = 6) : wE y ad (up M i 5 x) i = .inr (6, [.ref (ad (rf i 0)), .ref (ad (rf i 1)), .ref (ad (rf i 2)), .ref (ad (rf i 3)), .ref (ad (rf i 4)), .int (M i 5), .int (M i 6), .int (M i 7)].set 5 (.int x)) := by rw [wE_6 _ h]; simp [up]
theorem wP_6_6 {y : wY} {ad : Nat → Nat} (M : Mem) {i : Nat} (x : Int32) (h : kd i = 6) : wE y ad (up M i 6 x) i = .inr (6, [.ref (ad (rf i 0)), .ref (ad (rf i 1)), .ref (ad (rf i 2)), .ref (ad (rf i 3)), .ref (ad (rf i 4)), .int (M i 5), .int (M i 6), .int (M i 7)].set 6 (.int x)) := by rw [wE_6 _ h]; simp [up]
theorem wP_6_7 {y : wY} {ad : Nat → Nat} (M : Mem) {i : Nat} (x : Int32) (h : kd i = 6) : wE y ad (up M i 7 x) i = .inr (6, [.ref (ad (rf i 0)), .ref (ad (rf i 1)), .ref (ad (rf i 2)), .ref (ad (rf i 3)), .ref (ad (rf i 4)), .int (M i 5), .int (M i 6), .int (M i 7)].set 7 (.int x)) := by rw [wE_6 _ h]; simp [up]
theorem wP_7_7 {y : wY} {ad : Nat → Nat} (M : Mem) {i : Nat} (x : Int32) (h : kd i = 7) : wE y ad (up M i 7 x) i = .inr (7, [.ref (ad (rf i 0)), .ref (ad (rf i 1)), .ref (ad (rf i 2)), .ref (ad (rf i 3)), .ref (ad (rf i 4)), .ref (ad (rf i 5)), .ref (ad (rf i 6)), .int (M i 7)].set 7 (.int x)) := by rw [wE_7 _ h]; simp [up]
theorem wP_8_3 {y : wY} {ad : Nat → Nat} (M : Mem) {i : Nat} (x : Int32) (h : kd i = 8) : wE y ad (up M i 3 x) i = .inr (8, [.ref (ad (rf i 0)), .ref (ad (rf i 1)), .ref (ad (rf i 2)), .int (M i 3), .int (M i 4), .ref (ad (rf i 5)), .int (M i 6), .int (M i 7), .int (M i 8), .int (M i 9), .int (M i 10), .int (M i 11), .ref (ad (rf i 12)), .ref (ad (rf i 13)), .ref (ad (rf i 14)), .ref (ad (rf i 15)), .ref (ad (rf i 16)), .ref (ad (rf i 17)), .ref (ad (rf i 18)), .ref (ad (rf i 19)), .int (M i 20), .int (M i 21), .int (M i 22), .int (M i 23)].set 3 (.int x)) := by rw [wE_8 _ h]; simp [up]
theorem wP_8_4 {y : wY} {ad : Nat → Nat} (M : Mem) {i : Nat} (x : Int32) (h : kd i = 8) : wE y ad (up M i 4 x) i = .inr (8, [.ref (ad (rf i 0)), .ref (ad (rf i 1)), .ref (ad (rf i 2)), .int (M i 3), .int (M i 4), .ref (ad (rf i 5)), .int (M i 6), .int (M i 7), .int (M i 8), .int (M i 9), .int (M i 10), .int (M i 11), .ref (ad (rf i 12)), .ref (ad (rf i 13)), .ref (ad (rf i 14)), .ref (ad (rf i 15)), .ref (ad (rf i 16)), .ref (ad (rf i 17)), .ref (ad (rf i 18)), .ref (ad (rf i 19)), .int (M i 20), .int (M i 21), .int (M i 22), .int (M i 23)].set 4 (.int x)) := by rw [wE_8 _ h]; simp [up]
theorem wP_8_6 {y : wY} {ad : Nat → Nat} (M : Mem) {i : Nat} (x : Int32) (h : kd i = 8) : wE y ad (up M i 6 x) i = .inr (8, [.ref (ad (rf i 0)), .ref (ad (rf i 1)), .ref (ad (rf i 2)), .int (M i 3), .int (M i 4), .ref (ad (rf i 5)), .int (M i 6), .int (M i 7), .int (M i 8), .int (M i 9), .int (M i 10), .int (M i 11), .ref (ad (rf i 12)), .ref (ad (rf i 13)), .ref (ad (rf i 14)), .ref (ad (rf i 15)), .ref (ad (rf i 16)), .ref (ad (rf i 17)), .ref (ad (rf i 18)), .ref (ad (rf i 19)), .int (M i 20), .int (M i 21), .int (M i 22), .int (M i 23)].set 6 (.int x)) := by rw [wE_8 _ h]; simp [up]
theorem wP_8_7 {y : wY} {ad : Nat → Nat} (M : Mem) {i : Nat} (x : Int32) (h : kd i = 8) : wE y ad (up M i 7 x) i = .inr (8, [.ref (ad (rf i 0)), .ref (ad (rf i 1)), .ref (ad (rf i 2)), .int (M i 3), .int (M i 4), .ref (ad (rf i 5)), .int (M i 6), .int (M i 7), .int (M i 8), .int (M i 9), .int (M i 10), .int (M i 11), .ref (ad (rf i 12)), .ref (ad (rf i 13)), .ref (ad (rf i 14)), .ref (ad (rf i 15)), .ref (ad (rf i 16)), .ref (ad (rf i 17)), .ref (ad (rf i 18)), .ref (ad (rf i 19)), .int (M i 20), .int (M i 21), .int (M i 22), .int (M i 23)].set 7 (.int x)) := by rw [wE_8 _ h]; simp [up]
theorem wP_8_8 {y : wY} {ad : Nat → Nat} (M : Mem) {i : Nat} (x : Int32) (h : kd i = 8) : wE y ad (up M i 8 x) i = .inr (8, [.ref (ad (rf i 0)), .ref (ad (rf i 1)), .ref (ad (rf i 2)), .int (M i 3), .int (M i 4), .ref (ad (rf i 5)), .int (M i 6), .int (M i 7), .int (M i 8), .int (M i 9), .int (M i 10), .int (M i 11), .ref (ad (rf i 12)), .ref (ad (rf i 13)), .ref (ad (rf i 14)), .ref (ad (rf i 15)), .ref (ad (rf i 16)), .ref (ad (rf i 17)), .ref (ad (rf i 18)), .ref (ad (rf i 19)), .int (M i 20), .int (M i 21), .int (M i 22), .int (M i 23)].set 8 (.int x)) := by rw [wE_8 _ h]; simp [up]
theorem wP_8_9 {y : wY} {ad : Nat → Nat} (M : Mem) {i : Nat} (x : Int32) (h : kd i = 8) : wE y ad (up M i 9 x) i = .inr (8, [.ref (ad (rf i 0)), .ref (ad (rf i 1)), .ref (ad (rf i 2)), .int (M i 3), .int (M i 4), .ref (ad (rf i 5)), .int (M i 6), .int (M i 7), .int (M i 8), .int (M i 9), .int (M i 10), .int (M i 11), .ref (ad (rf i 12)), .ref (ad (rf i 13)), .ref (ad (rf i 14)), .ref (ad (rf i 15)), .ref (ad (rf i 16)), .ref (ad (rf i 17)), .ref (ad (rf i 18)), .ref (ad (rf i 19)), .int (M i 20), .int (M i 21), .int (M i 22), .int (M i 23)].set 9 (.int x)) := by rw [wE_8 _ h]; simp [up]
theorem wP_8_10 {y : wY} {ad : Nat → Nat} (M : Mem) {i : Nat} (x : Int32) (h : kd i = 8) : wE y ad (up M i 10 x) i = .inr (8, [.ref (ad (rf i 0)), .ref (ad (rf i 1)), .ref (ad (rf i 2)), .int (M i 3), .int (M i 4), .ref (ad (rf i 5)), .int (M i 6), .int (M i 7), .int (M i 8), .int (M i 9), .int (M i 10), .int (M i 11), .ref (ad (rf i 12)), .ref (ad (rf i 13)), .ref (ad (rf i 14)), .ref (ad (rf i 15)), .ref (ad (rf i 16)), .ref (ad (rf i 17)), .ref (ad (rf i 18)), .ref (ad (rf i 19)), .int (M i 20), .int (M i 21), .int (M i 22), .int (M i 23)].set 10 (.int x)) := by rw [wE_8 _ h]; simp [up]
theorem wP_8_11 {y : wY} {ad : Nat → Nat} (M : Mem) {i : Nat} (x : Int32) (h : kd i = 8) : wE y ad (up M i 11 x) i = .inr (8, [.ref (ad (rf i 0)), .ref (ad (rf i 1)), .ref (ad (rf i 2)), .int (M i 3), .int (M i 4), .ref (ad (rf i 5)), .int (M i 6), .int (M i 7), .int (M i 8), .int (M i 9), .int (M i 10), .int (M i 11), .ref (ad (rf i 12)), .ref (ad (rf i 13)), .ref (ad (rf i 14)), .ref (ad (rf i 15)), .ref (ad (rf i 16)), .ref (ad (rf i 17)), .ref (ad (rf i 18)), .ref (ad (rf i 19)), .int (M i 20), .int (M i 21), .int (M i 22), .int (M i 23)].set 11 (.int x)) := by rw [wE_8 _ h]; simp [up]
theorem wP_8_20 {y : wY} {ad : Nat → Nat} (M : Mem) {i : Nat} (x : Int32) (h : kd i = 8) : wE y ad (up M i 20 x) i = .inr (8, [.ref (ad (rf i 0)), .ref (ad (rf i 1)), .ref (ad (rf i 2)), .int (M i 3), .int (M i 4), .ref (ad (rf i 5)), .int (M i 6), .int (M i 7), .int (M i 8), .int (M i 9), .int (M i 10), .int (M i 11), .ref (ad (rf i 12)), .ref (ad (rf i 13)), .ref (ad (rf i 14)), .ref (ad (rf i 15)), .ref (ad (rf i 16)), .ref (ad (rf i 17)), .ref (ad (rf i 18)), .ref (ad (rf i 19)), .int (M i 20), .int (M i 21), .int (M i 22), .int (M i 23)].set 20 (.int x)) := by rw [wE_8 _ h]; simp [up]
theorem wP_8_21 {y : wY} {ad : Nat → Nat} (M : Mem) {i : Nat} (x : Int32) (h : kd i = 8) : wE y ad (up M i 21 x) i = .inr (8, [.ref (ad (rf i 0)), .ref (ad (rf i 1)), .ref (ad (rf i 2)), .int (M i 3), .int (M i 4), .ref (ad (rf i 5)), .int (M i 6), .int (M i 7), .int (M i 8), .int (M i 9), .int (M i 10), .int (M i 11), .ref (ad (rf i 12)), .ref (ad (rf i 13)), .ref (ad (rf i 14)), .ref (ad (rf i 15)), .ref (ad (rf i 16)), .ref (ad (rf i 17)), .ref (ad (rf i 18)), .ref (ad (rf i 19)), .int (M i 20), .int (M i 21), .int (M i 22), .int (M i 23)].set 21 (.int x)) := by rw [wE_8 _ h]; simp [up]
theorem wP_8_22 {y : wY} {ad : Nat → Nat} (M : Mem) {i : Nat} (x : Int32) (h : kd i = 8) : wE y ad (up M i 22 x) i = .inr (8, [.ref (ad (rf i 0)), .ref (ad (rf i 1)), .ref (ad (rf i 2)), .int (M i 3), .int (M i 4), .ref (ad (rf i 5)), .int (M i 6), .int (M i 7), .int (M i 8), .int (M i 9), .int (M i 10), .int (M i 11), .ref (ad (rf i 12)), .ref (ad (rf i 13)), .ref (ad (rf i 14)), .ref (ad (rf i 15)), .ref (ad (rf i 16)), .ref (ad (rf i 17)), .ref (ad (rf i 18)), .ref (ad (rf i 19)), .int (M i 20), .int (M i 21), .int (M i 22), .int (M i 23)].set 22 (.int x)) := by rw [wE_8 _ h]; simp [up]
theorem wP_8_23 {y : wY} {ad : Nat → Nat} (M : Mem) {i : Nat} (x : Int32) (h : kd i = 8) : wE y ad (up M i 23 x) i = .inr (8, [.ref (ad (rf i 0)), .ref (ad (rf i 1)), .ref (ad (rf i 2)), .int (M i 3), .int (M i 4), .ref (ad (rf i 5)), .int (M i 6), .int (M i 7), .int (M i 8), .int (M i 9), .int (M i 10), .int (M i 11), .ref (ad (rf i 12)), .ref (ad (rf i 13)), .ref (ad (rf i 14)), .ref (ad (rf i 15)), .ref (ad (rf i 16)), .ref (ad (rf i 17)), .ref (ad (rf i 18)), .ref (ad (rf i 19)), .int (M i 20), .int (M i 21), .int (M i 22), .int (M i 23)].set 23 (.int x)) := by rw [wE_8 _ h]; simp [up]
theorem wE_other {y : wY} {ad : Nat → Nat} {M M' : Mem} {i : Nat} (h : M' i = M i) : wE y ad M' i = wE y ad M i := by unfold wE; rw [h]
/-- the world -/
def PL (y : wY) (ad : Nat → Nat) (M : Mem) : va_W := (List.range 92).map (fun i => (ad i, wE y ad M i))
theorem PL_get {y : wY} {ad : Nat → Nat} {M : Mem} {i : Nat} (h : i < 92) : (PL y ad M)[i]? = some (ad i, wE y ad M i) := by simp [PL, h]
theorem PL_at {y : wY} {ad : Nat → Nat} {M : Mem} {i : Nat} {e : va_E} (h : i < 92) (he : wE y ad M i = e) : (PL y ad M)[i]? = some (ad i, e) := by rw [PL_get h, he]
theorem PL_set {y : wY} {ad : Nat → Nat} {M M' : Mem} {i : Nat} {e : va_E} (h : i < 92) (he : wE y ad M' i = e) (ho : ∀ b, b ≠ i → M' b = M b) : (PL y ad M).set i (ad i, e) = PL y ad M' := by
  apply List.ext_getElem?
  intro j
  rw [List.getElem?_set]
  by_cases hj : i = j
  · subst hj
    have hl : i < (PL y ad M).length := by simp [PL, h]
    simp only [hl, if_true]
    rw [PL_get h, he]
  · simp only [hj, if_false]
    simp only [PL, List.getElem?_map]
    cases hr : (List.range 92)[j]? with
    | none => rfl
    | some q =>
      have hq : q = j := by
        rcases Nat.lt_or_ge j 92 with h1 | h1
        · rw [List.getElem?_range h1] at hr; exact (Option.some.inj hr).symm
        · rw [List.getElem?_eq_none (by simpa using h1)] at hr; cases hr
      subst hq
      simp only [Option.map_some]
      rw [wE_other (ho q (fun h => hj h.symm))]
theorem PL_D {y : wY} {ad : Nat → Nat} {M M' : Mem} {A : Nat → Prop} (h : va_D A (PL y ad M)) : va_D A (PL y ad M') := by
  have tr : ∀ (k : Nat) (q : Nat × va_E), (PL y ad M')[k]? = some q → ∃ e, (PL y ad M)[k]? = some (q.1, e) := by
    intro k q hq
    rcases Nat.lt_or_ge k 92 with h1 | h1
    · rw [PL_get h1] at hq
      cases hq
      exact ⟨_, PL_get h1⟩
    · rw [List.getElem?_eq_none (by simpa [PL] using h1)] at hq; cases hq
  refine ⟨fun i j p q hp hq hpq => ?_, fun k q hq => ?_⟩
  · obtain ⟨e1, h1⟩ := tr i p hp
    obtain ⟨e2, h2⟩ := tr j q hq
    exact h.1 i j (p.1, e1) (q.1, e2) h1 h2 hpq
  · obtain ⟨e, h1⟩ := tr k q hq
    exact h.2 k (q.1, e) h1
theorem PL_A {y : wY} {ad : Nat → Nat} {M M' : Mem} {sz : Nat} : va_A (PL y ad M) sz = va_A (PL y ad M') sz := by
  have tr : ∀ (M M' : Mem) (q : Nat), va_A (PL y ad M) sz q → va_A (PL y ad M') sz q := by
    intro M M' q h
    rcases h with ⟨k, e, hk⟩ | h
    · rcases Nat.lt_or_ge k 92 with h1 | h1
      · rw [PL_get h1] at hk
        cases hk
        exact Or.inl ⟨k, _, PL_get h1⟩
      · rw [List.getElem?_eq_none (by simpa [PL] using h1)] at hk; cases hk
    · exact Or.inr h
  funext q
  exact propext ⟨tr M M' q, tr M' M q⟩
/-- what the tables say: the classes, the links of nest mates -/
def NestOK (U : State) : Prop := (∀ q ∈ NWF, va_Nw (nwf q) U) ∧ (∀ q ∈ NWM, va_Nw (nwm q) U)
theorem NestOK.warm {s U : State} (hW : s.WarmedH U.vm) (h : NestOK s) : NestOK U := ⟨fun q hq => va_Nw.warmF hW (h.1 q hq), fun q hq => va_Nw.warmM hW (h.2 q hq)⟩
theorem NestOK.same {s U : State} (hv : s.vm = U.vm) (h : NestOK s) : NestOK U := ⟨fun q hq => va_Nw.same rfl hv (h.1 q hq), fun q hq => va_Nw.same rfl hv (h.2 q hq)⟩
abbrev tysL (y : wY) : List (ClassId × FieldType) := [(y.1, .int), (y.2.1, .object "KnivesGround$One"), (y.2.2, .object "KnivesGround$Sheet")]
def Tb (D : va_G) (y : wY) (U : State) : Prop := va_K D vwCl (tysL y) U ∧ NestOK U
theorem Tb.warm {D : va_G} {y : wY} {s U : State} (hW : s.WarmedH U.vm) (h : Tb D y s) : Tb D y U := ⟨va_K.moved hW.alike h.1, h.2.warm hW⟩
theorem Tb.calling {D : va_G} {y : wY} {U : State} {g : JFrame} {mk : MethodId} {a : Array Value} (h : Tb D y U) : Tb D y (U.calling g mk a) := ⟨va_K.moved (u := U) (U := U.calling g mk a) (Vm.Alike.refl U.vm) h.1, h.2.same rfl⟩
/-- a method's words: its own code, and all -/
abbrev wm (w : Cond) : List Cond := w :: AW
theorem gAW {Ts : List Cond} {b : Cond} (hT : ∀ w ∈ AW, w ∈ Ts) (hb : b ∈ AW) : GoodIn Ts (wm b) := by
  intro w h
  have hw : w ∈ AW := by
    rcases List.mem_cons.mp h with rfl | h
    · exact hb
    · exact h
  exact ⟨hT _ hw, good_of_word (List.all_eq_true.mp AW_good w hw)⟩
abbrev rmN (n : Nat) : Room := { frames := n, cells := 0, slots := 0, locals := 60 * n }
/-- a method's start -/
def PcM (D : va_G) (y : wY) (ad : Nat → Nat) (M : Mem) (sz : Nat) (av : List Value) : Array Value → State → Prop := va_Pc av (fun U => U.heap.size = sz ∧ va_P D vwCl (PL y ad M) U.heap ∧ Tb D y U ∧ va_D (fun _ => True) (PL y ad M))
/-- contracts over the world: an int (or boolean) comes back; nothing; -/
def MI (l : Launch) (D : va_G) (y : wY) (ad : Nat → Nat) (nm : MethodName) (code : Cond) (n : Nat) (M : Mem) (av : List Value) (post : Int32 → Mem → Prop) : Prop :=
  ∀ sz : Nat, Met l nm (wm code) (rmN n) (PcM D y ad M sz av) (va_Qi post (fun M' t => va_P D vwCl (PL y ad M') t.heap) (va_A (PL y ad M) sz)) 0 0 (va_A (PL y ad M) sz)
def MV (l : Launch) (D : va_G) (y : wY) (ad : Nat → Nat) (nm : MethodName) (code : Cond) (n : Nat) (M : Mem) (av : List Value) (post : Mem → Prop) : Prop :=
  ∀ sz : Nat, Met l nm (wm code) (rmN n) (PcM D y ad M sz av) (va_Qv post (fun M' t => va_P D vwCl (PL y ad M') t.heap) (va_A (PL y ad M) sz)) 0 0 (va_A (PL y ad M) sz)
def MR (l : Launch) (D : va_G) (y : wY) (ad : Nat → Nat) (nm : MethodName) (code : Cond) (n : Nat) (M : Mem) (av : List Value) (post : Nat → Mem → Prop) : Prop :=
  ∀ sz : Nat, Met l nm (wm code) (rmN n) (PcM D y ad M sz av) (va_Qr (fun u : Nat × Mem => post u.1 u.2) (fun u a t => a = ad u.1 ∧ va_P D vwCl (PL y ad u.2) t.heap) (va_A (PL y ad M) sz)) 0 0 (va_A (PL y ad M) sz)
theorem PcM_blind {D : va_G} {y : wY} {ad : Nat → Nat} {M : Mem} {sz : Nat} {av : List Value} : FrameBlind (PcM D y ad M sz av) := by
  intro a U g mk q
  obtain ⟨h1, h2, h3, h4, h5⟩ := q
  exact ⟨h1, h2, h3, h4.calling, h5⟩
/-- where a body stands: at pc, with locals lv and stack st, over the memory M -/
def J (p : Program) (l : Launch) (e : Env) (R : Room) (s : State) (m : MethodId) (args : Array Value) (below : List Frame) (meth : Method) (c : Code) (kc ks : Nat) (Q : State → Prop) (D : va_G) (y : wY) (ad : Nat → Nat) (A : Nat → Prop) (nL : Nat) (M : Mem) (pc : Nat) (lv : List (Nat × Value)) (st : List Value) : Prop :=
  ∀ (H : Heap) (locs : List Loc) (ls : Array Slot), va_P D vwCl (PL y ad M) H → va_D A (PL y ad M) → va_S A s.heap H locs → lv_has ls nL lv → W p l e R s m args below meth c H locs kc ks Q (F0 m pc ls st)
/-- what stays true in a body -/
def Amb (p : Program) (m : MethodId) (c : Code) (cc : ByteArray) (nL : Nat) (s : State) (args : Array Value) (Ts : List Cond) (own : String) (D : va_G) (y : wY) (A : Nat → Prop) : Prop :=
  CallFix p m c cc nL s args Ts own ∧ Tb D y s ∧ (∀ q : Nat, s.heap.size ≤ q → A q) ∧ ∀ w ∈ AW, w ∈ Ts
section JJ
variable {p : Program} {l : Launch} {e : Env} {R : Room} {s : State} {m : MethodId} {args : Array Value} {below : List Frame} {meth : Method} {c : Code} {kc ks : Nat} {Q : State → Prop} {D : va_G} {y : wY} {ad : Nat → Nat} {A : Nat → Prop} {nL : Nat} {M : Mem} {pc : Nat} {lv : List (Nat × Value)} {st : List Value}
variable {cc : ByteArray} {Ts : List Cond} {own : String}
theorem j_iconst (X : Amb p m c cc nL s args Ts own D y A) {n : Int} {v : Int32} (hv : Int32.ofInt n = v) (hdg : decode cc pc = .ok (.iconst n, 1)) (k : J p l e R s m args below meth c kc ks Q D y ad A nL M (pc + 1) lv (.int v :: st)) : J p l e R s m args below meth c kc ks Q D y ad A nL M (pc) lv (st) := fun H locs ls hP hD hS hl => lv_iconst X.1.1 X.1.2.1 hdg hv (k H locs ls hP hD hS hl)
theorem j_bipush (X : Amb p m c cc nL s args Ts own D y A) {n : Int} {v : Int32} (hv : (Int8.ofInt n).toInt32 = v) (hdg : decode cc pc = .ok (.bipush n, 2)) (k : J p l e R s m args below meth c kc ks Q D y ad A nL M (pc + 2) lv (.int v :: st)) : J p l e R s m args below meth c kc ks Q D y ad A nL M (pc) lv (st) := fun H locs ls hP hD hS hl => lv_bipush X.1.1 X.1.2.1 hdg hv (k H locs ls hP hD hS hl)
theorem j_sipush (X : Amb p m c cc nL s args Ts own D y A) {n : Int} {v : Int32} (hv : (Int16.ofInt n).toInt32 = v) (hdg : decode cc pc = .ok (.sipush n, 3)) (k : J p l e R s m args below meth c kc ks Q D y ad A nL M (pc + 3) lv (.int v :: st)) : J p l e R s m args below meth c kc ks Q D y ad A nL M (pc) lv (st) := fun H locs ls hP hD hS hl => lv_sipush X.1.1 X.1.2.1 hdg hv (k H locs ls hP hD hS hl)
theorem j_ldc (X : Amb p m c cc nL s args Ts own D y A) {index : Nat} {v : Int32} (hw : Cond.constant own index v ∈ AW) (hdg : decode cc pc = .ok (.ldc index, 2)) (k : J p l e R s m args below meth c kc ks Q D y ad A nL M (pc + 2) lv (.int v :: st)) : J p l e R s m args below meth c kc ks Q D y ad A nL M (pc) lv (st) := fun H locs ls hP hD hS hl => lv_ldc X.1.1 X.1.2.1 X.1.2.2.2.1 (X.1.2.2.2.2 _ (X.2.2.2 _ hw)) hdg (k H locs ls hP hD hS hl)
theorem j_ldcw (X : Amb p m c cc nL s args Ts own D y A) {index : Nat} {v : Int32} (hw : Cond.constant own index v ∈ AW) (hdg : decode cc pc = .ok (.ldc_w index, 3)) (k : J p l e R s m args below meth c kc ks Q D y ad A nL M (pc + 3) lv (.int v :: st)) : J p l e R s m args below meth c kc ks Q D y ad A nL M (pc) lv (st) := fun H locs ls hP hD hS hl => lv_ldcw X.1.1 X.1.2.1 X.1.2.2.2.1 (X.1.2.2.2.2 _ (X.2.2.2 _ hw)) hdg (k H locs ls hP hD hS hl)
theorem j_ldc2 (X : Amb p m c cc nL s args Ts own D y A) {index : Nat} {v : Int64} (hw : Cond.constantLong own index v ∈ AW) (hdg : decode cc pc = .ok (.ldc2_w index, 3)) (k : J p l e R s m args below meth c kc ks Q D y ad A nL M (pc + 3) lv (.long v :: st)) : J p l e R s m args below meth c kc ks Q D y ad A nL M (pc) lv (st) := fun H locs ls hP hD hS hl => lv_ldc2 X.1.1 X.1.2.1 X.1.2.2.2.1 (X.1.2.2.2.2 _ (X.2.2.2 _ hw)) hdg (k H locs ls hP hD hS hl)
theorem j_iload_n (X : Amb p m c cc nL s args Ts own D y A) {f : Fin 4} {i : Nat} {x : Int32} (q : Nat) (hi : (f : Nat) = i) (hq : lv[q]? = some (i, .int x)) (hdg : decode cc pc = .ok (.iload_n f, 1)) (k : J p l e R s m args below meth c kc ks Q D y ad A nL M (pc + 1) lv (.int x :: st)) : J p l e R s m args below meth c kc ks Q D y ad A nL M (pc) lv (st) := fun H locs ls hP hD hS hl => lv_iload_n X.1.1 X.1.2.1 hdg hi (lv_at hl q hq) (k H locs ls hP hD hS hl)
theorem j_iload (X : Amb p m c cc nL s args Ts own D y A) {i : Nat} {x : Int32} (q : Nat) (hq : lv[q]? = some (i, .int x)) (hdg : decode cc pc = .ok (.iload i, 2)) (k : J p l e R s m args below meth c kc ks Q D y ad A nL M (pc + 2) lv (.int x :: st)) : J p l e R s m args below meth c kc ks Q D y ad A nL M (pc) lv (st) := fun H locs ls hP hD hS hl => lv_iload X.1.1 X.1.2.1 hdg (lv_at hl q hq) (k H locs ls hP hD hS hl)
theorem j_lload_n (X : Amb p m c cc nL s args Ts own D y A) {f : Fin 4} {i : Nat} {x : Int64} (q : Nat) (hi : (f : Nat) = i) (hq : lv[q]? = some (i, .long x)) (hdg : decode cc pc = .ok (.lload_n f, 1)) (k : J p l e R s m args below meth c kc ks Q D y ad A nL M (pc + 1) lv (.long x :: st)) : J p l e R s m args below meth c kc ks Q D y ad A nL M (pc) lv (st) := fun H locs ls hP hD hS hl => lv_lload_n X.1.1 X.1.2.1 hdg hi (lv_at hl q hq) (k H locs ls hP hD hS hl)
theorem j_lload (X : Amb p m c cc nL s args Ts own D y A) {i : Nat} {x : Int64} (q : Nat) (hq : lv[q]? = some (i, .long x)) (hdg : decode cc pc = .ok (.lload i, 2)) (k : J p l e R s m args below meth c kc ks Q D y ad A nL M (pc + 2) lv (.long x :: st)) : J p l e R s m args below meth c kc ks Q D y ad A nL M (pc) lv (st) := fun H locs ls hP hD hS hl => lv_lload X.1.1 X.1.2.1 hdg (lv_at hl q hq) (k H locs ls hP hD hS hl)
theorem j_aload_n (X : Amb p m c cc nL s args Ts own D y A) {f : Fin 4} {i : Nat} {x : Nat} (q : Nat) (hi : (f : Nat) = i) (hq : lv[q]? = some (i, .ref x)) (hdg : decode cc pc = .ok (.aload_n f, 1)) (k : J p l e R s m args below meth c kc ks Q D y ad A nL M (pc + 1) lv (.ref x :: st)) : J p l e R s m args below meth c kc ks Q D y ad A nL M (pc) lv (st) := fun H locs ls hP hD hS hl => lv_aload_n X.1.1 X.1.2.1 hdg hi (lv_at hl q hq) (k H locs ls hP hD hS hl)
theorem j_aload (X : Amb p m c cc nL s args Ts own D y A) {i : Nat} {x : Nat} (q : Nat) (hq : lv[q]? = some (i, .ref x)) (hdg : decode cc pc = .ok (.aload i, 2)) (k : J p l e R s m args below meth c kc ks Q D y ad A nL M (pc + 2) lv (.ref x :: st)) : J p l e R s m args below meth c kc ks Q D y ad A nL M (pc) lv (st) := fun H locs ls hP hD hS hl => lv_aload X.1.1 X.1.2.1 hdg (lv_at hl q hq) (k H locs ls hP hD hS hl)
theorem j_istore_n (X : Amb p m c cc nL s args Ts own D y A) {f : Fin 4} {i : Nat} {x : Int32} (lv1 : List (Nat × Value)) (hi : (f : Nat) = i) (hn : i < nL) (hv : (i, Value.int x) :: lv.filter (fun q => !(q.1 == i) && !(q.1 + 1 == i && q.2.category == 2)) = lv1) (hdg : decode cc pc = .ok (.istore_n f, 1)) (k : J p l e R s m args below meth c kc ks Q D y ad A nL M (pc + 1) lv1 (st)) : J p l e R s m args below meth c kc ks Q D y ad A nL M (pc) lv (.int x :: st) := fun H locs ls hP hD hS hl => lv_istore_n X.1.1 X.1.2.1 hdg hi hl hn hv (fun ls hl => k H locs ls hP hD hS hl)
theorem j_istore (X : Amb p m c cc nL s args Ts own D y A) {i : Nat} {x : Int32} (lv1 : List (Nat × Value)) (hn : i < nL) (hv : (i, Value.int x) :: lv.filter (fun q => !(q.1 == i) && !(q.1 + 1 == i && q.2.category == 2)) = lv1) (hdg : decode cc pc = .ok (.istore i, 2)) (k : J p l e R s m args below meth c kc ks Q D y ad A nL M (pc + 2) lv1 (st)) : J p l e R s m args below meth c kc ks Q D y ad A nL M (pc) lv (.int x :: st) := fun H locs ls hP hD hS hl => lv_istore X.1.1 X.1.2.1 hdg hl hn hv (fun ls hl => k H locs ls hP hD hS hl)
theorem j_astore_n (X : Amb p m c cc nL s args Ts own D y A) {f : Fin 4} {i : Nat} {x : Nat} (lv1 : List (Nat × Value)) (hi : (f : Nat) = i) (hn : i < nL) (hv : (i, Value.ref x) :: lv.filter (fun q => !(q.1 == i) && !(q.1 + 1 == i && q.2.category == 2)) = lv1) (hdg : decode cc pc = .ok (.astore_n f, 1)) (k : J p l e R s m args below meth c kc ks Q D y ad A nL M (pc + 1) lv1 (st)) : J p l e R s m args below meth c kc ks Q D y ad A nL M (pc) lv (.ref x :: st) := fun H locs ls hP hD hS hl => lv_astore_n X.1.1 X.1.2.1 hdg hi hl hn hv (fun ls hl => k H locs ls hP hD hS hl)
theorem j_astore (X : Amb p m c cc nL s args Ts own D y A) {i : Nat} {x : Nat} (lv1 : List (Nat × Value)) (hn : i < nL) (hv : (i, Value.ref x) :: lv.filter (fun q => !(q.1 == i) && !(q.1 + 1 == i && q.2.category == 2)) = lv1) (hdg : decode cc pc = .ok (.astore i, 2)) (k : J p l e R s m args below meth c kc ks Q D y ad A nL M (pc + 2) lv1 (st)) : J p l e R s m args below meth c kc ks Q D y ad A nL M (pc) lv (.ref x :: st) := fun H locs ls hP hD hS hl => lv_astore X.1.1 X.1.2.1 hdg hl hn hv (fun ls hl => k H locs ls hP hD hS hl)
theorem j_iinc (X : Amb p m c cc nL s args Ts own D y A) {i : Nat} {n : Int} {x v : Int32} (q : Nat) (lv1 : List (Nat × Value)) (hq : lv[q]? = some (i, .int x)) (hv : x + Int32.ofInt n = v) (hn : i < nL) (hl1 : (i, Value.int v) :: lv.filter (fun q => !(q.1 == i) && !(q.1 + 1 == i && q.2.category == 2)) = lv1) (hdg : decode cc pc = .ok (.iinc i n, 3)) (k : J p l e R s m args below meth c kc ks Q D y ad A nL M (pc + 3) lv1 (st)) : J p l e R s m args below meth c kc ks Q D y ad A nL M (pc) lv (st) := fun H locs ls hP hD hS hl => lv_iinc X.1.1 X.1.2.1 hdg hl hq hv hn hl1 (fun ls hl => k H locs ls hP hD hS hl)
theorem j_iadd (X : Amb p m c cc nL s args Ts own D y A) {x z : Int32} (hdg : decode cc pc = .ok (.iadd, 1)) (k : J p l e R s m args below meth c kc ks Q D y ad A nL M (pc + 1) lv (.int (x + z) :: st)) : J p l e R s m args below meth c kc ks Q D y ad A nL M (pc) lv (.int z :: .int x :: st) := fun H locs ls hP hD hS hl => lv_iadd X.1.1 X.1.2.1 hdg (k H locs ls hP hD hS hl)
theorem j_isub (X : Amb p m c cc nL s args Ts own D y A) {x z : Int32} (hdg : decode cc pc = .ok (.isub, 1)) (k : J p l e R s m args below meth c kc ks Q D y ad A nL M (pc + 1) lv (.int (x - z) :: st)) : J p l e R s m args below meth c kc ks Q D y ad A nL M (pc) lv (.int z :: .int x :: st) := fun H locs ls hP hD hS hl => lv_isub X.1.1 X.1.2.1 hdg (k H locs ls hP hD hS hl)
theorem j_imul (X : Amb p m c cc nL s args Ts own D y A) {x z : Int32} (hdg : decode cc pc = .ok (.imul, 1)) (k : J p l e R s m args below meth c kc ks Q D y ad A nL M (pc + 1) lv (.int (x * z) :: st)) : J p l e R s m args below meth c kc ks Q D y ad A nL M (pc) lv (.int z :: .int x :: st) := fun H locs ls hP hD hS hl => lv_imul X.1.1 X.1.2.1 hdg (k H locs ls hP hD hS hl)
theorem j_iand (X : Amb p m c cc nL s args Ts own D y A) {x z : Int32} (hdg : decode cc pc = .ok (.iand, 1)) (k : J p l e R s m args below meth c kc ks Q D y ad A nL M (pc + 1) lv (.int (x &&& z) :: st)) : J p l e R s m args below meth c kc ks Q D y ad A nL M (pc) lv (.int z :: .int x :: st) := fun H locs ls hP hD hS hl => lv_iand X.1.1 X.1.2.1 hdg (k H locs ls hP hD hS hl)
theorem j_ior (X : Amb p m c cc nL s args Ts own D y A) {x z : Int32} (hdg : decode cc pc = .ok (.ior, 1)) (k : J p l e R s m args below meth c kc ks Q D y ad A nL M (pc + 1) lv (.int (x ||| z) :: st)) : J p l e R s m args below meth c kc ks Q D y ad A nL M (pc) lv (.int z :: .int x :: st) := fun H locs ls hP hD hS hl => lv_ior X.1.1 X.1.2.1 hdg (k H locs ls hP hD hS hl)
theorem j_ixor (X : Amb p m c cc nL s args Ts own D y A) {x z : Int32} (hdg : decode cc pc = .ok (.ixor, 1)) (k : J p l e R s m args below meth c kc ks Q D y ad A nL M (pc + 1) lv (.int (x ^^^ z) :: st)) : J p l e R s m args below meth c kc ks Q D y ad A nL M (pc) lv (.int z :: .int x :: st) := fun H locs ls hP hD hS hl => lv_ixor X.1.1 X.1.2.1 hdg (k H locs ls hP hD hS hl)
theorem j_ishl (X : Amb p m c cc nL s args Ts own D y A) {x z : Int32} (hdg : decode cc pc = .ok (.ishl, 1)) (k : J p l e R s m args below meth c kc ks Q D y ad A nL M (pc + 1) lv (.int (x <<< (z &&& 31)) :: st)) : J p l e R s m args below meth c kc ks Q D y ad A nL M (pc) lv (.int z :: .int x :: st) := fun H locs ls hP hD hS hl => lv_ishl X.1.1 X.1.2.1 hdg (k H locs ls hP hD hS hl)
theorem j_ishr (X : Amb p m c cc nL s args Ts own D y A) {x z : Int32} (hdg : decode cc pc = .ok (.ishr, 1)) (k : J p l e R s m args below meth c kc ks Q D y ad A nL M (pc + 1) lv (.int (x >>> (z &&& 31)) :: st)) : J p l e R s m args below meth c kc ks Q D y ad A nL M (pc) lv (.int z :: .int x :: st) := fun H locs ls hP hD hS hl => lv_ishr X.1.1 X.1.2.1 hdg (k H locs ls hP hD hS hl)
theorem j_idiv (X : Amb p m c cc nL s args Ts own D y A) {x z : Int32} (hne : ¬ z = 0) (hdg : decode cc pc = .ok (.idiv, 1)) (k : J p l e R s m args below meth c kc ks Q D y ad A nL M (pc + 1) lv (.int (x / z) :: st)) : J p l e R s m args below meth c kc ks Q D y ad A nL M (pc) lv (.int z :: .int x :: st) := fun H locs ls hP hD hS hl => lv_idiv X.1.1 X.1.2.1 hdg hne (k H locs ls hP hD hS hl)
theorem j_irem (X : Amb p m c cc nL s args Ts own D y A) {x z : Int32} (hne : ¬ z = 0) (hdg : decode cc pc = .ok (.irem, 1)) (k : J p l e R s m args below meth c kc ks Q D y ad A nL M (pc + 1) lv (.int (x - x / z * z) :: st)) : J p l e R s m args below meth c kc ks Q D y ad A nL M (pc) lv (.int z :: .int x :: st) := fun H locs ls hP hD hS hl => lv_irem X.1.1 X.1.2.1 hdg hne (k H locs ls hP hD hS hl)
theorem j_land (X : Amb p m c cc nL s args Ts own D y A) {x z : Int64} (hdg : decode cc pc = .ok (.land, 1)) (k : J p l e R s m args below meth c kc ks Q D y ad A nL M (pc + 1) lv (.long (x &&& z) :: st)) : J p l e R s m args below meth c kc ks Q D y ad A nL M (pc) lv (.long z :: .long x :: st) := fun H locs ls hP hD hS hl => lv_land X.1.1 X.1.2.1 hdg (k H locs ls hP hD hS hl)
theorem j_lor (X : Amb p m c cc nL s args Ts own D y A) {x z : Int64} (hdg : decode cc pc = .ok (.lor, 1)) (k : J p l e R s m args below meth c kc ks Q D y ad A nL M (pc + 1) lv (.long (x ||| z) :: st)) : J p l e R s m args below meth c kc ks Q D y ad A nL M (pc) lv (.long z :: .long x :: st) := fun H locs ls hP hD hS hl => lv_lor X.1.1 X.1.2.1 hdg (k H locs ls hP hD hS hl)
theorem j_ineg (X : Amb p m c cc nL s args Ts own D y A) {x : Int32} (hdg : decode cc pc = .ok (.ineg, 1)) (k : J p l e R s m args below meth c kc ks Q D y ad A nL M (pc + 1) lv (.int (-x) :: st)) : J p l e R s m args below meth c kc ks Q D y ad A nL M (pc) lv (.int x :: st) := fun H locs ls hP hD hS hl => lv_ineg X.1.1 X.1.2.1 hdg (k H locs ls hP hD hS hl)
theorem j_iushr (X : Amb p m c cc nL s args Ts own D y A) {x z : Int32} (hdg : decode cc pc = .ok (.iushr, 1)) (k : J p l e R s m args below meth c kc ks Q D y ad A nL M (pc + 1) lv (.int (x.toUInt32 >>> (z.toUInt32 &&& Int32.toUInt32 31)).toInt32 :: st)) : J p l e R s m args below meth c kc ks Q D y ad A nL M (pc) lv (.int z :: .int x :: st) := fun H locs ls hP hD hS hl => lv_iushr X.1.1 X.1.2.1 hdg rfl (k H locs ls hP hD hS hl)
theorem j_lushr (X : Amb p m c cc nL s args Ts own D y A) {x : Int64} {z : Int32} (hdg : decode cc pc = .ok (.lushr, 1)) (k : J p l e R s m args below meth c kc ks Q D y ad A nL M (pc + 1) lv (.long (x.toUInt64 >>> (z.toInt64.toUInt64 &&& Int64.toUInt64 63)).toInt64 :: st)) : J p l e R s m args below meth c kc ks Q D y ad A nL M (pc) lv (.int z :: .long x :: st) := fun H locs ls hP hD hS hl => lv_lushr X.1.1 X.1.2.1 hdg rfl (k H locs ls hP hD hS hl)
theorem j_lshl (X : Amb p m c cc nL s args Ts own D y A) {x : Int64} {z : Int32} (hdg : decode cc pc = .ok (.lshl, 1)) (k : J p l e R s m args below meth c kc ks Q D y ad A nL M (pc + 1) lv (.long (x <<< (z.toInt64 &&& 63)) :: st)) : J p l e R s m args below meth c kc ks Q D y ad A nL M (pc) lv (.int z :: .long x :: st) := fun H locs ls hP hD hS hl => lv_lshl X.1.1 X.1.2.1 hdg rfl (k H locs ls hP hD hS hl)
theorem j_lshr (X : Amb p m c cc nL s args Ts own D y A) {x : Int64} {z : Int32} (hdg : decode cc pc = .ok (.lshr, 1)) (k : J p l e R s m args below meth c kc ks Q D y ad A nL M (pc + 1) lv (.long (x >>> (z.toInt64 &&& 63)) :: st)) : J p l e R s m args below meth c kc ks Q D y ad A nL M (pc) lv (.int z :: .long x :: st) := fun H locs ls hP hD hS hl => lv_lshr X.1.1 X.1.2.1 hdg rfl (k H locs ls hP hD hS hl)
theorem j_i2l (X : Amb p m c cc nL s args Ts own D y A) {x : Int32} (hdg : decode cc pc = .ok (.i2l, 1)) (k : J p l e R s m args below meth c kc ks Q D y ad A nL M (pc + 1) lv (.long (x.toInt64) :: st)) : J p l e R s m args below meth c kc ks Q D y ad A nL M (pc) lv (.int x :: st) := fun H locs ls hP hD hS hl => lv_i2l X.1.1 X.1.2.1 hdg rfl (k H locs ls hP hD hS hl)
theorem j_l2i (X : Amb p m c cc nL s args Ts own D y A) {x : Int64} (hdg : decode cc pc = .ok (.l2i, 1)) (k : J p l e R s m args below meth c kc ks Q D y ad A nL M (pc + 1) lv (.int (x.toInt32) :: st)) : J p l e R s m args below meth c kc ks Q D y ad A nL M (pc) lv (.long x :: st) := fun H locs ls hP hD hS hl => lv_l2i X.1.1 X.1.2.1 hdg rfl (k H locs ls hP hD hS hl)
theorem j_i2b (X : Amb p m c cc nL s args Ts own D y A) {x : Int32} (hdg : decode cc pc = .ok (.i2b, 1)) (k : J p l e R s m args below meth c kc ks Q D y ad A nL M (pc + 1) lv (.int (x.toInt8.toInt32) :: st)) : J p l e R s m args below meth c kc ks Q D y ad A nL M (pc) lv (.int x :: st) := fun H locs ls hP hD hS hl => lv_i2b X.1.1 X.1.2.1 hdg rfl (k H locs ls hP hD hS hl)
theorem j_i2s (X : Amb p m c cc nL s args Ts own D y A) {x : Int32} (hdg : decode cc pc = .ok (.i2s, 1)) (k : J p l e R s m args below meth c kc ks Q D y ad A nL M (pc + 1) lv (.int (x.toInt16.toInt32) :: st)) : J p l e R s m args below meth c kc ks Q D y ad A nL M (pc) lv (.int x :: st) := fun H locs ls hP hD hS hl => lv_i2s X.1.1 X.1.2.1 hdg rfl (k H locs ls hP hD hS hl)
theorem j_dup (X : Amb p m c cc nL s args Ts own D y A) {va : Value} (hva : va.category = 1) (hdg : decode cc pc = .ok (.dup, 1)) (k : J p l e R s m args below meth c kc ks Q D y ad A nL M (pc + 1) lv (va :: va :: st)) : J p l e R s m args below meth c kc ks Q D y ad A nL M (pc) lv (va :: st) := fun H locs ls hP hD hS hl => lv_dup X.1.1 X.1.2.1 hdg hva (k H locs ls hP hD hS hl)
theorem j_pop (X : Amb p m c cc nL s args Ts own D y A) {va : Value} (hva : va.category = 1) (hdg : decode cc pc = .ok (.pop, 1)) (k : J p l e R s m args below meth c kc ks Q D y ad A nL M (pc + 1) lv (st)) : J p l e R s m args below meth c kc ks Q D y ad A nL M (pc) lv (va :: st) := fun H locs ls hP hD hS hl => lv_pop X.1.1 X.1.2.1 hdg hva (k H locs ls hP hD hS hl)
theorem j_dup_x1 (X : Amb p m c cc nL s args Ts own D y A) {va vb : Value} (hva : va.category = 1) (hvb : vb.category = 1) (hdg : decode cc pc = .ok (.dup_x1, 1)) (k : J p l e R s m args below meth c kc ks Q D y ad A nL M (pc + 1) lv (va :: vb :: va :: st)) : J p l e R s m args below meth c kc ks Q D y ad A nL M (pc) lv (va :: vb :: st) := fun H locs ls hP hD hS hl => lv_dup_x1 X.1.1 X.1.2.1 hdg hva hvb (k H locs ls hP hD hS hl)
theorem j_dup2 (X : Amb p m c cc nL s args Ts own D y A) {va vb : Value} (hva : va.category = 1) (hvb : vb.category = 1) (hdg : decode cc pc = .ok (.dup2, 1)) (k : J p l e R s m args below meth c kc ks Q D y ad A nL M (pc + 1) lv (va :: vb :: va :: vb :: st)) : J p l e R s m args below meth c kc ks Q D y ad A nL M (pc) lv (va :: vb :: st) := fun H locs ls hP hD hS hl => lv_dup2_11 X.1.1 X.1.2.1 hdg hva hvb (k H locs ls hP hD hS hl)
theorem j_goto (X : Amb p m c cc nL s args Ts own D y A) {off : Int} (tgt : Nat) (ht : (pc : Int) + off = (tgt : Int)) (hdg : decode cc pc = .ok (.goto off, 3)) (k : J p l e R s m args below meth c kc ks Q D y ad A nL M (tgt) lv (st)) : J p l e R s m args below meth c kc ks Q D y ad A nL M (pc) lv (st) := fun H locs ls hP hD hS hl => lv_goto X.1.1 X.1.2.1 hdg ht (k H locs ls hP hD hS hl)
theorem j_if_eq (X : Amb p m c cc nL s args Ts own D y A) {x : Int32} {off : Int} (tgt : Nat) (ht : (pc : Int) + off = (tgt : Int)) (hdg : decode cc pc = .ok (.ifCond .eq off, 3)) (kt : x = 0 → J p l e R s m args below meth c kc ks Q D y ad A nL M (tgt) lv (st)) (kf : ¬ x = 0 → J p l e R s m args below meth c kc ks Q D y ad A nL M (pc + 3) lv (st)) : J p l e R s m args below meth c kc ks Q D y ad A nL M (pc) lv (.int x :: st) := fun H locs ls hP hD hS hl => lv_if_eq X.1.1 X.1.2.1 hdg ht (fun h => kt h H locs ls hP hD hS hl) (fun h => kf h H locs ls hP hD hS hl)
theorem j_icmp_eq (X : Amb p m c cc nL s args Ts own D y A) {x z : Int32} {off : Int} (tgt : Nat) (ht : (pc : Int) + off = (tgt : Int)) (hdg : decode cc pc = .ok (.if_icmp .eq off, 3)) (kt : x = z → J p l e R s m args below meth c kc ks Q D y ad A nL M (tgt) lv (st)) (kf : ¬ x = z → J p l e R s m args below meth c kc ks Q D y ad A nL M (pc + 3) lv (st)) : J p l e R s m args below meth c kc ks Q D y ad A nL M (pc) lv (.int z :: .int x :: st) := fun H locs ls hP hD hS hl => lv_icmp_eq X.1.1 X.1.2.1 hdg ht (fun h => kt h H locs ls hP hD hS hl) (fun h => kf h H locs ls hP hD hS hl)
theorem j_if_ne (X : Amb p m c cc nL s args Ts own D y A) {x : Int32} {off : Int} (tgt : Nat) (ht : (pc : Int) + off = (tgt : Int)) (hdg : decode cc pc = .ok (.ifCond .ne off, 3)) (kt : ¬ x = 0 → J p l e R s m args below meth c kc ks Q D y ad A nL M (tgt) lv (st)) (kf : x = 0 → J p l e R s m args below meth c kc ks Q D y ad A nL M (pc + 3) lv (st)) : J p l e R s m args below meth c kc ks Q D y ad A nL M (pc) lv (.int x :: st) := fun H locs ls hP hD hS hl => lv_if_ne X.1.1 X.1.2.1 hdg ht (fun h => kt h H locs ls hP hD hS hl) (fun h => kf h H locs ls hP hD hS hl)
theorem j_icmp_ne (X : Amb p m c cc nL s args Ts own D y A) {x z : Int32} {off : Int} (tgt : Nat) (ht : (pc : Int) + off = (tgt : Int)) (hdg : decode cc pc = .ok (.if_icmp .ne off, 3)) (kt : ¬ x = z → J p l e R s m args below meth c kc ks Q D y ad A nL M (tgt) lv (st)) (kf : x = z → J p l e R s m args below meth c kc ks Q D y ad A nL M (pc + 3) lv (st)) : J p l e R s m args below meth c kc ks Q D y ad A nL M (pc) lv (.int z :: .int x :: st) := fun H locs ls hP hD hS hl => lv_icmp_ne X.1.1 X.1.2.1 hdg ht (fun h => kt h H locs ls hP hD hS hl) (fun h => kf h H locs ls hP hD hS hl)
theorem j_if_lt (X : Amb p m c cc nL s args Ts own D y A) {x : Int32} {off : Int} (tgt : Nat) (ht : (pc : Int) + off = (tgt : Int)) (hdg : decode cc pc = .ok (.ifCond .lt off, 3)) (kt : x < 0 → J p l e R s m args below meth c kc ks Q D y ad A nL M (tgt) lv (st)) (kf : ¬ x < 0 → J p l e R s m args below meth c kc ks Q D y ad A nL M (pc + 3) lv (st)) : J p l e R s m args below meth c kc ks Q D y ad A nL M (pc) lv (.int x :: st) := fun H locs ls hP hD hS hl => lv_if_lt X.1.1 X.1.2.1 hdg ht (fun h => kt h H locs ls hP hD hS hl) (fun h => kf h H locs ls hP hD hS hl)
theorem j_icmp_lt (X : Amb p m c cc nL s args Ts own D y A) {x z : Int32} {off : Int} (tgt : Nat) (ht : (pc : Int) + off = (tgt : Int)) (hdg : decode cc pc = .ok (.if_icmp .lt off, 3)) (kt : x < z → J p l e R s m args below meth c kc ks Q D y ad A nL M (tgt) lv (st)) (kf : ¬ x < z → J p l e R s m args below meth c kc ks Q D y ad A nL M (pc + 3) lv (st)) : J p l e R s m args below meth c kc ks Q D y ad A nL M (pc) lv (.int z :: .int x :: st) := fun H locs ls hP hD hS hl => lv_icmp_lt X.1.1 X.1.2.1 hdg ht (fun h => kt h H locs ls hP hD hS hl) (fun h => kf h H locs ls hP hD hS hl)
theorem j_if_ge (X : Amb p m c cc nL s args Ts own D y A) {x : Int32} {off : Int} (tgt : Nat) (ht : (pc : Int) + off = (tgt : Int)) (hdg : decode cc pc = .ok (.ifCond .ge off, 3)) (kt : 0 ≤ x → J p l e R s m args below meth c kc ks Q D y ad A nL M (tgt) lv (st)) (kf : ¬ 0 ≤ x → J p l e R s m args below meth c kc ks Q D y ad A nL M (pc + 3) lv (st)) : J p l e R s m args below meth c kc ks Q D y ad A nL M (pc) lv (.int x :: st) := fun H locs ls hP hD hS hl => lv_if_ge X.1.1 X.1.2.1 hdg ht (fun h => kt h H locs ls hP hD hS hl) (fun h => kf h H locs ls hP hD hS hl)
theorem j_icmp_ge (X : Amb p m c cc nL s args Ts own D y A) {x z : Int32} {off : Int} (tgt : Nat) (ht : (pc : Int) + off = (tgt : Int)) (hdg : decode cc pc = .ok (.if_icmp .ge off, 3)) (kt : z ≤ x → J p l e R s m args below meth c kc ks Q D y ad A nL M (tgt) lv (st)) (kf : ¬ z ≤ x → J p l e R s m args below meth c kc ks Q D y ad A nL M (pc + 3) lv (st)) : J p l e R s m args below meth c kc ks Q D y ad A nL M (pc) lv (.int z :: .int x :: st) := fun H locs ls hP hD hS hl => lv_icmp_ge X.1.1 X.1.2.1 hdg ht (fun h => kt h H locs ls hP hD hS hl) (fun h => kf h H locs ls hP hD hS hl)
theorem j_if_gt (X : Amb p m c cc nL s args Ts own D y A) {x : Int32} {off : Int} (tgt : Nat) (ht : (pc : Int) + off = (tgt : Int)) (hdg : decode cc pc = .ok (.ifCond .gt off, 3)) (kt : 0 < x → J p l e R s m args below meth c kc ks Q D y ad A nL M (tgt) lv (st)) (kf : ¬ 0 < x → J p l e R s m args below meth c kc ks Q D y ad A nL M (pc + 3) lv (st)) : J p l e R s m args below meth c kc ks Q D y ad A nL M (pc) lv (.int x :: st) := fun H locs ls hP hD hS hl => lv_if_gt X.1.1 X.1.2.1 hdg ht (fun h => kt h H locs ls hP hD hS hl) (fun h => kf h H locs ls hP hD hS hl)
theorem j_icmp_gt (X : Amb p m c cc nL s args Ts own D y A) {x z : Int32} {off : Int} (tgt : Nat) (ht : (pc : Int) + off = (tgt : Int)) (hdg : decode cc pc = .ok (.if_icmp .gt off, 3)) (kt : z < x → J p l e R s m args below meth c kc ks Q D y ad A nL M (tgt) lv (st)) (kf : ¬ z < x → J p l e R s m args below meth c kc ks Q D y ad A nL M (pc + 3) lv (st)) : J p l e R s m args below meth c kc ks Q D y ad A nL M (pc) lv (.int z :: .int x :: st) := fun H locs ls hP hD hS hl => lv_icmp_gt X.1.1 X.1.2.1 hdg ht (fun h => kt h H locs ls hP hD hS hl) (fun h => kf h H locs ls hP hD hS hl)
theorem j_if_le (X : Amb p m c cc nL s args Ts own D y A) {x : Int32} {off : Int} (tgt : Nat) (ht : (pc : Int) + off = (tgt : Int)) (hdg : decode cc pc = .ok (.ifCond .le off, 3)) (kt : x ≤ 0 → J p l e R s m args below meth c kc ks Q D y ad A nL M (tgt) lv (st)) (kf : ¬ x ≤ 0 → J p l e R s m args below meth c kc ks Q D y ad A nL M (pc + 3) lv (st)) : J p l e R s m args below meth c kc ks Q D y ad A nL M (pc) lv (.int x :: st) := fun H locs ls hP hD hS hl => lv_if_le X.1.1 X.1.2.1 hdg ht (fun h => kt h H locs ls hP hD hS hl) (fun h => kf h H locs ls hP hD hS hl)
theorem j_icmp_le (X : Amb p m c cc nL s args Ts own D y A) {x z : Int32} {off : Int} (tgt : Nat) (ht : (pc : Int) + off = (tgt : Int)) (hdg : decode cc pc = .ok (.if_icmp .le off, 3)) (kt : x ≤ z → J p l e R s m args below meth c kc ks Q D y ad A nL M (tgt) lv (st)) (kf : ¬ x ≤ z → J p l e R s m args below meth c kc ks Q D y ad A nL M (pc + 3) lv (st)) : J p l e R s m args below meth c kc ks Q D y ad A nL M (pc) lv (.int z :: .int x :: st) := fun H locs ls hP hD hS hl => lv_icmp_le X.1.1 X.1.2.1 hdg ht (fun h => kt h H locs ls hP hD hS hl) (fun h => kf h H locs ls hP hD hS hl)
theorem j_topi {x : Int32} (k : ∀ v : Int32, v = x → J p l e R s m args below meth c kc ks Q D y ad A nL M (pc) lv (.int v :: st)) : J p l e R s m args below meth c kc ks Q D y ad A nL M (pc) lv (.int x :: st) := k x rfl
theorem j_eqi {x v : Int32} (h : x = v) (k : J p l e R s m args below meth c kc ks Q D y ad A nL M (pc) lv (.int v :: st)) : J p l e R s m args below meth c kc ks Q D y ad A nL M (pc) lv (.int x :: st) := h ▸ k
theorem j_eqr {x v : Nat} (h : x = v) (k : J p l e R s m args below meth c kc ks Q D y ad A nL M (pc) lv (.ref (ad v) :: st)) : J p l e R s m args below meth c kc ks Q D y ad A nL M (pc) lv (.ref (ad x) :: st) := h ▸ k
theorem j_eqM {M1 : Mem} (h : M = M1) (k : J p l e R s m args below meth c kc ks Q D y ad A nL M1 (pc) lv (st)) : J p l e R s m args below meth c kc ks Q D y ad A nL M (pc) lv (st) := h ▸ k
theorem j_lv {lv1 : List (Nat × Value)} (is : List Nat) (hk : lv_pick lv is = lv1) (k : J p l e R s m args below meth c kc ks Q D y ad A nL M (pc) lv1 (st)) : J p l e R s m args below meth c kc ks Q D y ad A nL M (pc) lv (st) := fun H locs ls hP hD hS hl => k H locs ls hP hD hS (lv_sub hl is hk)
theorem j_tsw_in (X : Amb p m c cc nL s args Ts own D y A) {dflt lo hi : Int} {offs : Array Int} {len : Nat} {x : Int32} {off : Int} (tgt : Nat) (v : Int32) (hx : x = v) (h1 : ¬ v.toInt < lo) (h2 : ¬ hi < v.toInt) (ho : offs[(v.toInt - lo).toNat]? = some off) (ht : (pc : Int) + off = (tgt : Int)) (hdg : decode cc pc = .ok (.tableswitch dflt lo hi offs, len)) (k : J p l e R s m args below meth c kc ks Q D y ad A nL M (tgt) lv (st)) : J p l e R s m args below meth c kc ks Q D y ad A nL M (pc) lv (.int x :: st) := by subst hx; exact fun H locs ls hP hD hS hl => lv_tableIn X.1.1 X.1.2.1 hdg h1 h2 ho ht (k H locs ls hP hD hS hl)
theorem j_tsw_out (X : Amb p m c cc nL s args Ts own D y A) {dflt lo hi : Int} {offs : Array Int} {len : Nat} {x : Int32} (tgt : Nat) (h : x.toInt < lo ∨ hi < x.toInt) (ht : (pc : Int) + dflt = (tgt : Int)) (hdg : decode cc pc = .ok (.tableswitch dflt lo hi offs, len)) (k : J p l e R s m args below meth c kc ks Q D y ad A nL M (tgt) lv (st)) : J p l e R s m args below meth c kc ks Q D y ad A nL M (pc) lv (.int x :: st) := fun H locs ls hP hD hS hl => lv_tableOut X.1.1 X.1.2.1 hdg h ht (k H locs ls hP hD hS hl)
theorem j_lsw (X : Amb p m c cc nL s args Ts own D y A) {dflt : Int} {ps : Array (Int × Int)} {len : Nat} {x : Int32} {off : Int} (tgt : Nat) (hp : (ps.toList.zip (ps.toList.drop 1)).all (fun (a, next) => a.1 < next.1) = true) (ho : Op.lookupswitch.offset ps.toList dflt x.toInt = off) (ht : (pc : Int) + off = (tgt : Int)) (hdg : decode cc pc = .ok (.lookupswitch dflt ps, len)) (k : J p l e R s m args below meth c kc ks Q D y ad A nL M (tgt) lv (st)) : J p l e R s m args below meth c kc ks Q D y ad A nL M (pc) lv (.int x :: st) := fun H locs ls hP hD hS hl => lv_lookup X.1.1 X.1.2.1 hdg hp ho ht (k H locs ls hP hD hS hl)
theorem tsw_out (n : Nat) {x : Int32} (hn : n < 1000) (h : ∀ j : Nat, j ≤ n → x ≠ nI j) : x.toInt < 0 ∨ (n : Int) < x.toInt := by
  rcases Int.lt_or_le x.toInt 0 with h0 | h0
  · exact Or.inl h0
  · rcases Int.lt_or_le (n : Int) x.toInt with h1 | h1
    · exact Or.inr h1
    · refine absurd ?_ (h x.toInt.toNat (by omega))
      refine Int32.toInt_inj.mp ?_
      rw [nI_toInt (by omega)]
      omega
theorem j_get (X : Amb p m c cc nL s args Ts own D y A) {ref C : String} {T : u_T} {N ci index i : Nat} {fs : List Value} {v : Value} (hi : i < 92) (hE : wE y ad M i = .inr (ci, fs)) (hc : vwCl[ci]? = some (C, T, N)) (hin : ∀ w ∈ u_ws C T N, w ∈ AW) (k : Nat) (hk : k < N) (hlink : Cond.fieldLink own index ref (T k).2.1 (T k).2.2.1 ∈ AW) (hr : (T k).1 = ref) (hv : fs[k]? = some v) (hdg : decode cc pc = .ok (.getfield index, 3)) (kk : J p l e R s m args below meth c kc ks Q D y ad A nL M (pc + 3) lv (v :: st)) : J p l e R s m args below meth c kc ks Q D y ad A nL M (pc) lv (.ref (ad i) :: st) := fun H locs ls hP hD hS hl => va_get X.1.1 X.1.2.1 X.1.2.2.2.2 (fun w hw => X.2.2.2 w (hin w hw)) X.1.2.2.2.1 X.2.1.1 hP i (PL_at hi hE) hc k hk (X.1.2.2.2.2 _ (X.2.2.2 _ hlink)) (fun x h => by rw [← hr]; exact h) hv hdg (kk H locs ls hP hD hS hl)
theorem j_getN (X : Amb p m c cc nL s args Ts own D y A) {ref C : String} {T : u_T} {N ci index i : Nat} {fs : List Value} {v : Value} (hi : i < 92) (hE : wE y ad M i = .inr (ci, fs)) (hc : vwCl[ci]? = some (C, T, N)) (hin : ∀ w ∈ u_ws C T N, w ∈ AW) (k : Nat) (hk : k < N) {host : String} (hq : (own, index, ref, (T k).2.1, (T k).2.2.1, host) ∈ NWF) (hr : (T k).1 = ref) (hv : fs[k]? = some v) (hdg : decode cc pc = .ok (.getfield index, 3)) (kk : J p l e R s m args below meth c kc ks Q D y ad A nL M (pc + 3) lv (v :: st)) : J p l e R s m args below meth c kc ks Q D y ad A nL M (pc) lv (.ref (ad i) :: st) := fun H locs ls hP hD hS hl => va_getN X.1.1 X.1.2.1 X.1.2.2.2.2 (fun w hw => X.2.2.2 w (hin w hw)) X.1.2.2.2.1 X.2.1.1 hP i (PL_at hi hE) hc k hk (va_Nw.use rfl (X.2.1.2.1 _ hq)) (fun x h => by rw [← hr]; exact h) hv hdg (kk H locs ls hP hD hS hl)
theorem j_put (X : Amb p m c cc nL s args Ts own D y A) {ref C : String} {T : u_T} {N ci index i : Nat} {fs : List Value} {ty : FieldType} {v : Value} (M1 : Mem) (ho : ∀ b, b ≠ i → M1 b = M b) (hi : i < 92) (hE : wE y ad M i = .inr (ci, fs)) (hc : vwCl[ci]? = some (C, T, N)) (hin : ∀ w ∈ u_ws C T N, w ∈ AW) (k : Nat) (hk : k < N) (hE1 : wE y ad M1 i = .inr (ci, fs.set k v)) (ty0 : Nat → FieldType) (hty : ∀ k, k < N → parseFieldDescriptor (T k).2.2.1 = some (ty0 k)) (hnm : ∀ a, a < N → ∀ b, b < N → a ≠ b → (T a).2.1 ≠ (T b).2.1) (hfin : (T k).2.2.2 = false) (hd : parseFieldDescriptor (T k).2.2.1 = some ty) (hn : narrow ty v = v) (hfit : fits ty v = true) (hlen : k < fs.length) (hlink : Cond.fieldLink own index ref (T k).2.1 (T k).2.2.1 ∈ AW) (hr : (T k).1 = ref) (hdg : decode cc pc = .ok (.putfield index, 3)) (kk : J p l e R s m args below meth c kc ks Q D y ad A nL M1 (pc + 3) lv (st)) : J p l e R s m args below meth c kc ks Q D y ad A nL M (pc) lv (v :: .ref (ad i) :: st) := fun H locs ls hP hD hS hl => va_put X.1.1 X.1.2.1 X.1.2.2.2.2 (fun w hw => X.2.2.2 w (hin w hw)) ty0 hty hnm X.1.2.2.2.1 X.2.1.1 hP hD hS i (PL_at hi hE) hc k hk (X.1.2.2.2.2 _ (X.2.2.2 _ hlink)) (fun x h => by rw [← hr]; exact h) hfin hd hn hfit hlen hdg (fun H1 locs1 hP1 hD1 hS1 => kk H1 locs1 ls (by rw [← PL_set hi hE1 ho]; exact hP1) (by rw [← PL_set hi hE1 ho]; exact hD1) hS1 hl)
theorem j_putN (X : Amb p m c cc nL s args Ts own D y A) {ref C : String} {T : u_T} {N ci index i : Nat} {fs : List Value} {ty : FieldType} {v : Value} (M1 : Mem) (ho : ∀ b, b ≠ i → M1 b = M b) (hi : i < 92) (hE : wE y ad M i = .inr (ci, fs)) (hc : vwCl[ci]? = some (C, T, N)) (hin : ∀ w ∈ u_ws C T N, w ∈ AW) (k : Nat) (hk : k < N) (hE1 : wE y ad M1 i = .inr (ci, fs.set k v)) (ty0 : Nat → FieldType) (hty : ∀ k, k < N → parseFieldDescriptor (T k).2.2.1 = some (ty0 k)) (hnm : ∀ a, a < N → ∀ b, b < N → a ≠ b → (T a).2.1 ≠ (T b).2.1) (hfin : (T k).2.2.2 = false) (hd : parseFieldDescriptor (T k).2.2.1 = some ty) (hn : narrow ty v = v) (hfit : fits ty v = true) (hlen : k < fs.length) {host : String} (hq : (own, index, ref, (T k).2.1, (T k).2.2.1, host) ∈ NWF) (hr : (T k).1 = ref) (hdg : decode cc pc = .ok (.putfield index, 3)) (kk : J p l e R s m args below meth c kc ks Q D y ad A nL M1 (pc + 3) lv (st)) : J p l e R s m args below meth c kc ks Q D y ad A nL M (pc) lv (v :: .ref (ad i) :: st) := fun H locs ls hP hD hS hl => va_putN X.1.1 X.1.2.1 X.1.2.2.2.2 (fun w hw => X.2.2.2 w (hin w hw)) ty0 hty hnm X.1.2.2.2.1 X.2.1.1 hP hD hS i (PL_at hi hE) hc k hk (va_Nw.use rfl (X.2.1.2.1 _ hq)) (fun x h => by rw [← hr]; exact h) hfin hd hn hfit hlen hdg (fun H1 locs1 hP1 hD1 hS1 => kk H1 locs1 ls (by rw [← PL_set hi hE1 ho]; exact hP1) (by rw [← PL_set hi hE1 ho]; exact hD1) hS1 hl)
theorem up_o {M : Mem} {i k : Nat} {x : Int32} : ∀ b, b ≠ i → up M i k x b = M b := fun b h => by funext j; exact up_cell h
theorem upA_o {M : Mem} {i : Nat} {f : Nat → Int32} : ∀ b, b ≠ i → upA M i f b = M b := fun b h => upA_cell h
theorem up_upd {M : Mem} {i k : Nat} {x : Int32} : up M i k x i = upd (M i) k x := by funext j; simp [up, upd]
theorem j_iald (X : Amb p m c cc nL s args Ts own D y A) {i : Nat} {x : Int32} (hi : i < 92) (hk : kd i = 9) (hin : vp_in x (ln i)) (hdg : decode cc pc = .ok (.iaload, 1)) (kk : J p l e R s m args below meth c kc ks Q D y ad A nL M (pc + 1) lv (.int (M i x.toNatClampNeg) :: st)) : J p l e R s m args below meth c kc ks Q D y ad A nL M (pc) lv (.int x :: .ref (ad i) :: st) := fun H locs ls hP hD hS hl => va_iald X.1.1 X.1.2.1 X.2.1.1 hP i 0 (PL_at hi (wE_9 M hk)) rfl hin hdg (kk H locs ls hP hD hS hl)
theorem j_iast (X : Amb p m c cc nL s args Ts own D y A) {i : Nat} {x v : Int32} (hi : i < 92) (hk : kd i = 9) (hin : vp_in x (ln i)) (hdg : decode cc pc = .ok (.iastore, 1)) (kk : J p l e R s m args below meth c kc ks Q D y ad A nL (up M i x.toNatClampNeg v) (pc + 1) lv (st)) : J p l e R s m args below meth c kc ks Q D y ad A nL M (pc) lv (.int v :: .int x :: .ref (ad i) :: st) := fun H locs ls hP hD hS hl => va_iast X.1.1 X.1.2.1 X.2.1.1 hP hD hS i 0 (PL_at hi (wE_9 M hk)) rfl hin hdg (fun H1 locs1 hP1 hD1 hS1 => kk H1 locs1 ls (by rw [← PL_set hi (by rw [wE_9 _ hk, up_upd]) up_o]; exact hP1) (by rw [← PL_set hi (by rw [wE_9 _ hk, up_upd]) up_o]; exact hD1) hS1 hl)
theorem j_alen (X : Amb p m c cc nL s args Ts own D y A) {i : Nat} (hi : i < 92) (hk : kd i = 9) (hdg : decode cc pc = .ok (.arraylength, 1)) (kk : J p l e R s m args below meth c kc ks Q D y ad A nL M (pc + 1) lv (.int (Int32.ofNat (ln i)) :: st)) : J p l e R s m args below meth c kc ks Q D y ad A nL M (pc) lv (.ref (ad i) :: st) := fun H locs ls hP hD hS hl => va_alen X.1.1 X.1.2.1 X.2.1.1 hP i 0 (PL_at hi (wE_9 M hk)) rfl rfl hdg (kk H locs ls hP hD hS hl)
theorem j_aald10 (X : Amb p m c cc nL s args Ts own D y A) {i : Nat} {x : Int32} (hi : i < 92) (hk : kd i = 10) (hin : vp_in x (ln i)) (hdg : decode cc pc = .ok (.aaload, 1)) (kk : J p l e R s m args below meth c kc ks Q D y ad A nL M (pc + 1) lv (.ref (ad (rf i x.toNatClampNeg)) :: st)) : J p l e R s m args below meth c kc ks Q D y ad A nL M (pc) lv (.int x :: .ref (ad i) :: st) := fun H locs ls hP hD hS hl => va_aldq X.1.1 X.1.2.1 X.2.1.1 hP i 1 (PL_at hi (wE_10 M hk)) rfl hin hdg (kk H locs ls hP hD hS hl)
theorem j_aald11 (X : Amb p m c cc nL s args Ts own D y A) {i : Nat} {x : Int32} (hi : i < 92) (hk : kd i = 11) (hin : vp_in x (ln i)) (hdg : decode cc pc = .ok (.aaload, 1)) (kk : J p l e R s m args below meth c kc ks Q D y ad A nL M (pc + 1) lv (.ref (ad (rf i x.toNatClampNeg)) :: st)) : J p l e R s m args below meth c kc ks Q D y ad A nL M (pc) lv (.int x :: .ref (ad i) :: st) := fun H locs ls hP hD hS hl => va_aldq X.1.1 X.1.2.1 X.2.1.1 hP i 2 (PL_at hi (wE_11 M hk)) rfl hin hdg (kk H locs ls hP hD hS hl)
theorem j_mmax (X : Amb p m c cc nL s args Ts own D y A) {index : Nat} {x z : Int32} (h1 : Cond.methodLink own index Lib.Math.max.name ∈ AW) (h2 : Cond.static Lib.Math.max.name ∈ AW) (h3 : Cond.initialized "java/lang/Math" ∈ AW) (h4 : Cond.code Lib.Math.max.name Lib.Math.max.code 2 (some .int) ∈ AW) (hf : 1 ≤ R.frames) (hlo : (st.map fun v => v.category).sum + 13 ≤ R.locals) (hc : kc ≤ R.cells) (hs : ks ≤ R.slots) (hdg : decode cc pc = .ok (.invokestatic index, 3)) (kk : J p l e R s m args below meth c kc ks Q D y ad A nL M (pc + 3) lv (.int (if x < z then z else x) :: st)) : J p l e R s m args below meth c kc ks Q D y ad A nL M (pc) lv (.int z :: .int x :: st) := fun H locs ls hP hD hS hl => va_mmax X.1.1 X.1.2.1 (by rw [X.1.2.2.1]; exact hl.1.symm) X.1.2.2.2.1 (X.1.2.2.2.2 _ (X.2.2.2 _ h1)) (X.1.2.2.2.2 _ (X.2.2.2 _ h2)) (X.1.2.2.2.2 _ (X.2.2.2 _ h3)) (X.1.2.2.2.2 _ (X.2.2.2 _ h4)) hf hlo hc hs hdg (kk H locs ls hP hD hS hl)
theorem j_mmin (X : Amb p m c cc nL s args Ts own D y A) {index : Nat} {x z : Int32} (h1 : Cond.methodLink own index Lib.Math.min.name ∈ AW) (h2 : Cond.static Lib.Math.min.name ∈ AW) (h3 : Cond.initialized "java/lang/Math" ∈ AW) (h4 : Cond.code Lib.Math.min.name Lib.Math.min.code 2 (some .int) ∈ AW) (hf : 1 ≤ R.frames) (hlo : (st.map fun v => v.category).sum + 13 ≤ R.locals) (hc : kc ≤ R.cells) (hs : ks ≤ R.slots) (hdg : decode cc pc = .ok (.invokestatic index, 3)) (kk : J p l e R s m args below meth c kc ks Q D y ad A nL M (pc + 3) lv (.int (if z < x then z else x) :: st)) : J p l e R s m args below meth c kc ks Q D y ad A nL M (pc) lv (.int z :: .int x :: st) := fun H locs ls hP hD hS hl => va_mmin X.1.1 X.1.2.1 (by rw [X.1.2.2.1]; exact hl.1.symm) X.1.2.2.2.1 (X.1.2.2.2.2 _ (X.2.2.2 _ h1)) (X.1.2.2.2.2 _ (X.2.2.2 _ h2)) (X.1.2.2.2.2 _ (X.2.2.2 _ h3)) (X.1.2.2.2.2 _ (X.2.2.2 _ h4)) hf hlo hc hs hdg (kk H locs ls hP hD hS hl)
theorem j_copy (X : Amb p m c cc nL s args Ts own D y A) {index i j : Nat} {sp dp n : Int32} (h1 : Cond.methodLink own index arraycopyName ∈ AW) (h2 : Cond.native arraycopyName ∈ AW) (h3 : Cond.static arraycopyName ∈ AW) (h4 : Cond.initialized "java/lang/System" ∈ AW) (hi : i < 92) (hj : j < 92) (hki : kd i = 9) (hkj : kd j = 9) (g1 : ¬ sp < 0) (g2 : ¬ dp < 0) (g3 : ¬ n < 0) (g4 : sp.toNatClampNeg + n.toNatClampNeg ≤ ln i) (g5 : dp.toNatClampNeg + n.toNatClampNeg ≤ ln j) (hf : 1 ≤ R.frames) (hlo : (st.map fun v => v.category).sum + (nativeFrameWords "java/lang/System" "arraycopy" 5 + 11) ≤ R.locals) (hdg : decode cc pc = .ok (.invokestatic index, 3)) (kk : J p l e R s m args below meth c kc ks Q D y ad A nL (upA M j (va_cpy (M i) (M j) sp.toNatClampNeg dp.toNatClampNeg n.toNatClampNeg)) (pc + 3) lv (st)) : J p l e R s m args below meth c kc ks Q D y ad A nL M (pc) lv (.int n :: .int dp :: .ref (ad j) :: .int sp :: .ref (ad i) :: st) := fun H locs ls hP hD hS hl => va_copyi X.1.1 X.1.2.1 (by rw [X.1.2.2.1]; exact hl.1.symm) X.1.2.2.2.1 (X.1.2.2.2.2 _ (X.2.2.2 _ h1)) (X.1.2.2.2.2 _ (X.2.2.2 _ h2)) (X.1.2.2.2.2 _ (X.2.2.2 _ h3)) (X.1.2.2.2.2 _ (X.2.2.2 _ h4)) X.2.1.1 hP hD hS i j 0 0 (PL_at hi (wE_9 M hki)) (PL_at hj (wE_9 M hkj)) rfl rfl rfl g1 g2 g3 g4 g5 (fun _ _ => rfl) hf hlo hdg (fun H1 locs1 hP1 hD1 hS1 => kk H1 locs1 ls (by rw [← PL_set hj (by rw [wE_9 _ hkj, upA_same]) upA_o]; exact hP1) (by rw [← PL_set hj (by rw [wE_9 _ hkj, upA_same]) upA_o]; exact hD1) hS1 hl)
theorem PL_free {A : Nat → Prop} {H0 H : Heap} {locs : List Loc} (hD : va_D A (PL y ad M)) (hS : va_S A H0 H locs) (hA : ∀ q, H0.size ≤ q → A q) : ∀ q, va_A (PL y ad M) H.size q → A q := by
  intro q h
  rcases h with ⟨k, e, h⟩ | h
  · exact hD.2 k _ h
  · exact hA q (Nat.le_trans hS.1 h)
theorem PcM_of {av : List Value} {H : Heap} {U : State} (hT : Tb D y s) (hP : va_P D vwCl (PL y ad M) H) (hD : va_D A (PL y ad M)) (hU : U.heap = H) (hW : s.WarmedH U.vm) : PcM D y ad M H.size av av.toArray U := ⟨rfl, by rw [hU], by rw [hU]; exact hP, hT.warm hW, hD.weaken (fun _ _ _ _ => trivial)⟩
theorem j_callVI (X : Amb p m c cc nL s args Ts own D y A) {nm : MethodName} {bytes : ByteArray} {maxL n nn index : Nat} {ret : Option FieldType} {As : List Value} {post : Int32 → Mem → Prop} {ci i : Nat} {C : String} {T : u_T} {N : Nat} {fs : List Value} (hi : i < 92) (hE : wE y ad M i = .inr (ci, fs)) (hc : vwCl[ci]? = some (C, T, N)) (hinst : Cond.instanceMethod nm ∈ AW) (hsel : Cond.selects C nm nm ∈ AW) (hM : MI l D y ad nm (Cond.code nm bytes maxL ret) n M (.ref (ad i) :: As) post) (hlink : Cond.methodLink own index nm ∈ AW) (hcode : Cond.code nm bytes maxL ret ∈ AW) (hini : Cond.initialized nm.cls ∈ AW) (hd : nm.cls ≠ "java/lang/invoke/MethodHandle" ∧ nm.cls ≠ "java/lang/invoke/VarHandle" ∧ (parseMethodDescriptor nm.desc).map (fun d => d.parameters.length) = some nn) (hR : n + 1 ≤ R.frames ∧ 8 + (maxL + 11) + 60 * n ≤ R.locals) (hn : As.length = nn) (hW : (st.map fun v => v.category).sum ≤ 8) (hf : kc ≤ R.cells ∧ ks ≤ R.slots) (hdg : decode cc pc = .ok (.invokevirtual index, 3)) (kk : ∀ (r : Int32) (M1 : Mem), post r M1 → J p l e R s m args below meth c kc ks Q D y ad A nL M1 (pc + 3) lv (.int r :: st)) : J p l e R s m args below meth c kc ks Q D y ad A nL M (pc) lv (As.reverse ++ .ref (ad i) :: st) := fun H locs ls hP hD hS hl => va_calli (va_runV X.1 (hM H.size) ⟨(callB_of nn X.1.2.2.2.2 (gAW X.2.2.2 hcode) rfl rfl rfl (X.1.2.2.2.2 _ (X.2.2.2 _ hini)) (X.1.2.2.2.2 _ (X.2.2.2 _ hlink)) hd hR), (X.1.2.2.2.2 _ (X.2.2.2 _ hinst)), (X.1.2.2.2.2 _ (X.2.2.2 _ hsel))⟩ ⟨PcM_blind, va_recv X.2.1.1 hP hc (PL_at hi hE), fun U hU hW => PcM_of X.2.1 hP hD hU hW⟩ rfl hn hl.1 rfl (lv_room hW) hdg hf) hS (fun q _ h => PL_free hD hS X.2.2.1 q h) (PL_free hD hS X.2.2.1) (fun r M1 t H1 locs1 ht hvm hp hB hz hk1 hS1 => kk r M1 hp H1 locs1 ls (by rw [← ht]; exact hB) (PL_D hD) hS1 hl)
theorem j_callVNI (X : Amb p m c cc nL s args Ts own D y A) {nm : MethodName} {bytes : ByteArray} {maxL n nn index : Nat} {ret : Option FieldType} {As : List Value} {post : Int32 → Mem → Prop} {host : String} {ci i : Nat} {C : String} {T : u_T} {N : Nat} {fs : List Value} (hi : i < 92) (hE : wE y ad M i = .inr (ci, fs)) (hc : vwCl[ci]? = some (C, T, N)) (hinst : Cond.instanceMethod nm ∈ AW) (hsel : Cond.selects C nm nm ∈ AW) (hM : MI l D y ad nm (Cond.code nm bytes maxL ret) n M (.ref (ad i) :: As) post) (hlink : (own, index, nm, host) ∈ NWM) (hcode : Cond.code nm bytes maxL ret ∈ AW) (hini : Cond.initialized nm.cls ∈ AW) (hd : nm.cls ≠ "java/lang/invoke/MethodHandle" ∧ nm.cls ≠ "java/lang/invoke/VarHandle" ∧ (parseMethodDescriptor nm.desc).map (fun d => d.parameters.length) = some nn) (hR : n + 1 ≤ R.frames ∧ 8 + (maxL + 11) + 60 * n ≤ R.locals) (hn : As.length = nn) (hW : (st.map fun v => v.category).sum ≤ 8) (hf : kc ≤ R.cells ∧ ks ≤ R.slots) (hdg : decode cc pc = .ok (.invokevirtual index, 3)) (kk : ∀ (r : Int32) (M1 : Mem), post r M1 → J p l e R s m args below meth c kc ks Q D y ad A nL M1 (pc + 3) lv (.int r :: st)) : J p l e R s m args below meth c kc ks Q D y ad A nL M (pc) lv (As.reverse ++ .ref (ad i) :: st) := fun H locs ls hP hD hS hl => va_calli (va_runVN X.1 (hM H.size) ⟨(va_cnB nn X.1.2.2.2.2 (gAW X.2.2.2 hcode) rfl rfl rfl (X.2.1.2.2 _ hlink) (X.1.2.2.2.2 _ (X.2.2.2 _ hini)) hd hR), (X.1.2.2.2.2 _ (X.2.2.2 _ hinst)), (X.1.2.2.2.2 _ (X.2.2.2 _ hsel))⟩ ⟨PcM_blind, va_recv X.2.1.1 hP hc (PL_at hi hE), fun U hU hW => PcM_of X.2.1 hP hD hU hW⟩ rfl hn hl.1 rfl (lv_room hW) hdg hf) hS (fun q _ h => PL_free hD hS X.2.2.1 q h) (PL_free hD hS X.2.2.1) (fun r M1 t H1 locs1 ht hvm hp hB hz hk1 hS1 => kk r M1 hp H1 locs1 ls (by rw [← ht]; exact hB) (PL_D hD) hS1 hl)
theorem j_callSI (X : Amb p m c cc nL s args Ts own D y A) {nm : MethodName} {bytes : ByteArray} {maxL n nn index : Nat} {ret : Option FieldType} {As : List Value} {post : Int32 → Mem → Prop} (hstat : Cond.static nm ∈ AW) (hM : MI l D y ad nm (Cond.code nm bytes maxL ret) n M As post) (hlink : Cond.methodLink own index nm ∈ AW) (hcode : Cond.code nm bytes maxL ret ∈ AW) (hini : Cond.initialized nm.cls ∈ AW) (hd : nm.cls ≠ "java/lang/invoke/MethodHandle" ∧ nm.cls ≠ "java/lang/invoke/VarHandle" ∧ (parseMethodDescriptor nm.desc).map (fun d => d.parameters.length) = some nn) (hR : n + 1 ≤ R.frames ∧ 8 + (maxL + 11) + 60 * n ≤ R.locals) (hn : As.length = nn) (hW : (st.map fun v => v.category).sum ≤ 8) (hf : kc ≤ R.cells ∧ ks ≤ R.slots) (hdg : decode cc pc = .ok (.invokestatic index, 3)) (kk : ∀ (r : Int32) (M1 : Mem), post r M1 → J p l e R s m args below meth c kc ks Q D y ad A nL M1 (pc + 3) lv (.int r :: st)) : J p l e R s m args below meth c kc ks Q D y ad A nL M (pc) lv (As.reverse ++ st) := fun H locs ls hP hD hS hl => va_calli (va_runS X.1 (hM H.size) ⟨(callB_of nn X.1.2.2.2.2 (gAW X.2.2.2 hcode) rfl rfl rfl (X.1.2.2.2.2 _ (X.2.2.2 _ hini)) (X.1.2.2.2.2 _ (X.2.2.2 _ hlink)) hd hR), (X.1.2.2.2.2 _ (X.2.2.2 _ hstat))⟩ ⟨PcM_blind, fun U hU hW => PcM_of X.2.1 hP hD hU hW⟩ rfl hn hl.1 rfl (lv_room hW) hdg hf) hS (fun q _ h => PL_free hD hS X.2.2.1 q h) (PL_free hD hS X.2.2.1) (fun r M1 t H1 locs1 ht hvm hp hB hz hk1 hS1 => kk r M1 hp H1 locs1 ls (by rw [← ht]; exact hB) (PL_D hD) hS1 hl)
theorem j_callSNI (X : Amb p m c cc nL s args Ts own D y A) {nm : MethodName} {bytes : ByteArray} {maxL n nn index : Nat} {ret : Option FieldType} {As : List Value} {post : Int32 → Mem → Prop} {host : String} (hstat : Cond.static nm ∈ AW) (hM : MI l D y ad nm (Cond.code nm bytes maxL ret) n M As post) (hlink : (own, index, nm, host) ∈ NWM) (hcode : Cond.code nm bytes maxL ret ∈ AW) (hini : Cond.initialized nm.cls ∈ AW) (hd : nm.cls ≠ "java/lang/invoke/MethodHandle" ∧ nm.cls ≠ "java/lang/invoke/VarHandle" ∧ (parseMethodDescriptor nm.desc).map (fun d => d.parameters.length) = some nn) (hR : n + 1 ≤ R.frames ∧ 8 + (maxL + 11) + 60 * n ≤ R.locals) (hn : As.length = nn) (hW : (st.map fun v => v.category).sum ≤ 8) (hf : kc ≤ R.cells ∧ ks ≤ R.slots) (hdg : decode cc pc = .ok (.invokestatic index, 3)) (kk : ∀ (r : Int32) (M1 : Mem), post r M1 → J p l e R s m args below meth c kc ks Q D y ad A nL M1 (pc + 3) lv (.int r :: st)) : J p l e R s m args below meth c kc ks Q D y ad A nL M (pc) lv (As.reverse ++ st) := fun H locs ls hP hD hS hl => va_calli (va_runSN X.1 (hM H.size) ⟨(va_cnB nn X.1.2.2.2.2 (gAW X.2.2.2 hcode) rfl rfl rfl (X.2.1.2.2 _ hlink) (X.1.2.2.2.2 _ (X.2.2.2 _ hini)) hd hR), (X.1.2.2.2.2 _ (X.2.2.2 _ hstat)), trivial⟩ ⟨PcM_blind, fun U hU hW => PcM_of X.2.1 hP hD hU hW⟩ rfl hn hl.1 rfl (lv_room hW) hdg hf) hS (fun q _ h => PL_free hD hS X.2.2.1 q h) (PL_free hD hS X.2.2.1) (fun r M1 t H1 locs1 ht hvm hp hB hz hk1 hS1 => kk r M1 hp H1 locs1 ls (by rw [← ht]; exact hB) (PL_D hD) hS1 hl)
theorem j_callVV (X : Amb p m c cc nL s args Ts own D y A) {nm : MethodName} {bytes : ByteArray} {maxL n nn index : Nat} {ret : Option FieldType} {As : List Value} {post : Mem → Prop} {ci i : Nat} {C : String} {T : u_T} {N : Nat} {fs : List Value} (hi : i < 92) (hE : wE y ad M i = .inr (ci, fs)) (hc : vwCl[ci]? = some (C, T, N)) (hinst : Cond.instanceMethod nm ∈ AW) (hsel : Cond.selects C nm nm ∈ AW) (hM : MV l D y ad nm (Cond.code nm bytes maxL ret) n M (.ref (ad i) :: As) post) (hlink : Cond.methodLink own index nm ∈ AW) (hcode : Cond.code nm bytes maxL ret ∈ AW) (hini : Cond.initialized nm.cls ∈ AW) (hd : nm.cls ≠ "java/lang/invoke/MethodHandle" ∧ nm.cls ≠ "java/lang/invoke/VarHandle" ∧ (parseMethodDescriptor nm.desc).map (fun d => d.parameters.length) = some nn) (hR : n + 1 ≤ R.frames ∧ 8 + (maxL + 11) + 60 * n ≤ R.locals) (hn : As.length = nn) (hW : (st.map fun v => v.category).sum ≤ 8) (hf : kc ≤ R.cells ∧ ks ≤ R.slots) (hdg : decode cc pc = .ok (.invokevirtual index, 3)) (kk : ∀ M1 : Mem, post M1 → J p l e R s m args below meth c kc ks Q D y ad A nL M1 (pc + 3) lv (st)) : J p l e R s m args below meth c kc ks Q D y ad A nL M (pc) lv (As.reverse ++ .ref (ad i) :: st) := fun H locs ls hP hD hS hl => va_callv (va_runV X.1 (hM H.size) ⟨(callB_of nn X.1.2.2.2.2 (gAW X.2.2.2 hcode) rfl rfl rfl (X.1.2.2.2.2 _ (X.2.2.2 _ hini)) (X.1.2.2.2.2 _ (X.2.2.2 _ hlink)) hd hR), (X.1.2.2.2.2 _ (X.2.2.2 _ hinst)), (X.1.2.2.2.2 _ (X.2.2.2 _ hsel))⟩ ⟨PcM_blind, va_recv X.2.1.1 hP hc (PL_at hi hE), fun U hU hW => PcM_of X.2.1 hP hD hU hW⟩ rfl hn hl.1 rfl (lv_room hW) hdg hf) hS (fun q _ h => PL_free hD hS X.2.2.1 q h) (PL_free hD hS X.2.2.1) (fun M1 t H1 locs1 ht hvm hp hB hz hk1 hS1 => kk M1 hp H1 locs1 ls (by rw [← ht]; exact hB) (PL_D hD) hS1 hl)
theorem j_callVNV (X : Amb p m c cc nL s args Ts own D y A) {nm : MethodName} {bytes : ByteArray} {maxL n nn index : Nat} {ret : Option FieldType} {As : List Value} {post : Mem → Prop} {host : String} {ci i : Nat} {C : String} {T : u_T} {N : Nat} {fs : List Value} (hi : i < 92) (hE : wE y ad M i = .inr (ci, fs)) (hc : vwCl[ci]? = some (C, T, N)) (hinst : Cond.instanceMethod nm ∈ AW) (hsel : Cond.selects C nm nm ∈ AW) (hM : MV l D y ad nm (Cond.code nm bytes maxL ret) n M (.ref (ad i) :: As) post) (hlink : (own, index, nm, host) ∈ NWM) (hcode : Cond.code nm bytes maxL ret ∈ AW) (hini : Cond.initialized nm.cls ∈ AW) (hd : nm.cls ≠ "java/lang/invoke/MethodHandle" ∧ nm.cls ≠ "java/lang/invoke/VarHandle" ∧ (parseMethodDescriptor nm.desc).map (fun d => d.parameters.length) = some nn) (hR : n + 1 ≤ R.frames ∧ 8 + (maxL + 11) + 60 * n ≤ R.locals) (hn : As.length = nn) (hW : (st.map fun v => v.category).sum ≤ 8) (hf : kc ≤ R.cells ∧ ks ≤ R.slots) (hdg : decode cc pc = .ok (.invokevirtual index, 3)) (kk : ∀ M1 : Mem, post M1 → J p l e R s m args below meth c kc ks Q D y ad A nL M1 (pc + 3) lv (st)) : J p l e R s m args below meth c kc ks Q D y ad A nL M (pc) lv (As.reverse ++ .ref (ad i) :: st) := fun H locs ls hP hD hS hl => va_callv (va_runVN X.1 (hM H.size) ⟨(va_cnB nn X.1.2.2.2.2 (gAW X.2.2.2 hcode) rfl rfl rfl (X.2.1.2.2 _ hlink) (X.1.2.2.2.2 _ (X.2.2.2 _ hini)) hd hR), (X.1.2.2.2.2 _ (X.2.2.2 _ hinst)), (X.1.2.2.2.2 _ (X.2.2.2 _ hsel))⟩ ⟨PcM_blind, va_recv X.2.1.1 hP hc (PL_at hi hE), fun U hU hW => PcM_of X.2.1 hP hD hU hW⟩ rfl hn hl.1 rfl (lv_room hW) hdg hf) hS (fun q _ h => PL_free hD hS X.2.2.1 q h) (PL_free hD hS X.2.2.1) (fun M1 t H1 locs1 ht hvm hp hB hz hk1 hS1 => kk M1 hp H1 locs1 ls (by rw [← ht]; exact hB) (PL_D hD) hS1 hl)
theorem j_callSV (X : Amb p m c cc nL s args Ts own D y A) {nm : MethodName} {bytes : ByteArray} {maxL n nn index : Nat} {ret : Option FieldType} {As : List Value} {post : Mem → Prop} (hstat : Cond.static nm ∈ AW) (hM : MV l D y ad nm (Cond.code nm bytes maxL ret) n M As post) (hlink : Cond.methodLink own index nm ∈ AW) (hcode : Cond.code nm bytes maxL ret ∈ AW) (hini : Cond.initialized nm.cls ∈ AW) (hd : nm.cls ≠ "java/lang/invoke/MethodHandle" ∧ nm.cls ≠ "java/lang/invoke/VarHandle" ∧ (parseMethodDescriptor nm.desc).map (fun d => d.parameters.length) = some nn) (hR : n + 1 ≤ R.frames ∧ 8 + (maxL + 11) + 60 * n ≤ R.locals) (hn : As.length = nn) (hW : (st.map fun v => v.category).sum ≤ 8) (hf : kc ≤ R.cells ∧ ks ≤ R.slots) (hdg : decode cc pc = .ok (.invokestatic index, 3)) (kk : ∀ M1 : Mem, post M1 → J p l e R s m args below meth c kc ks Q D y ad A nL M1 (pc + 3) lv (st)) : J p l e R s m args below meth c kc ks Q D y ad A nL M (pc) lv (As.reverse ++ st) := fun H locs ls hP hD hS hl => va_callv (va_runS X.1 (hM H.size) ⟨(callB_of nn X.1.2.2.2.2 (gAW X.2.2.2 hcode) rfl rfl rfl (X.1.2.2.2.2 _ (X.2.2.2 _ hini)) (X.1.2.2.2.2 _ (X.2.2.2 _ hlink)) hd hR), (X.1.2.2.2.2 _ (X.2.2.2 _ hstat))⟩ ⟨PcM_blind, fun U hU hW => PcM_of X.2.1 hP hD hU hW⟩ rfl hn hl.1 rfl (lv_room hW) hdg hf) hS (fun q _ h => PL_free hD hS X.2.2.1 q h) (PL_free hD hS X.2.2.1) (fun M1 t H1 locs1 ht hvm hp hB hz hk1 hS1 => kk M1 hp H1 locs1 ls (by rw [← ht]; exact hB) (PL_D hD) hS1 hl)
theorem j_callSNV (X : Amb p m c cc nL s args Ts own D y A) {nm : MethodName} {bytes : ByteArray} {maxL n nn index : Nat} {ret : Option FieldType} {As : List Value} {post : Mem → Prop} {host : String} (hstat : Cond.static nm ∈ AW) (hM : MV l D y ad nm (Cond.code nm bytes maxL ret) n M As post) (hlink : (own, index, nm, host) ∈ NWM) (hcode : Cond.code nm bytes maxL ret ∈ AW) (hini : Cond.initialized nm.cls ∈ AW) (hd : nm.cls ≠ "java/lang/invoke/MethodHandle" ∧ nm.cls ≠ "java/lang/invoke/VarHandle" ∧ (parseMethodDescriptor nm.desc).map (fun d => d.parameters.length) = some nn) (hR : n + 1 ≤ R.frames ∧ 8 + (maxL + 11) + 60 * n ≤ R.locals) (hn : As.length = nn) (hW : (st.map fun v => v.category).sum ≤ 8) (hf : kc ≤ R.cells ∧ ks ≤ R.slots) (hdg : decode cc pc = .ok (.invokestatic index, 3)) (kk : ∀ M1 : Mem, post M1 → J p l e R s m args below meth c kc ks Q D y ad A nL M1 (pc + 3) lv (st)) : J p l e R s m args below meth c kc ks Q D y ad A nL M (pc) lv (As.reverse ++ st) := fun H locs ls hP hD hS hl => va_callv (va_runSN X.1 (hM H.size) ⟨(va_cnB nn X.1.2.2.2.2 (gAW X.2.2.2 hcode) rfl rfl rfl (X.2.1.2.2 _ hlink) (X.1.2.2.2.2 _ (X.2.2.2 _ hini)) hd hR), (X.1.2.2.2.2 _ (X.2.2.2 _ hstat)), trivial⟩ ⟨PcM_blind, fun U hU hW => PcM_of X.2.1 hP hD hU hW⟩ rfl hn hl.1 rfl (lv_room hW) hdg hf) hS (fun q _ h => PL_free hD hS X.2.2.1 q h) (PL_free hD hS X.2.2.1) (fun M1 t H1 locs1 ht hvm hp hB hz hk1 hS1 => kk M1 hp H1 locs1 ls (by rw [← ht]; exact hB) (PL_D hD) hS1 hl)
theorem j_callVR (X : Amb p m c cc nL s args Ts own D y A) {nm : MethodName} {bytes : ByteArray} {maxL n nn index : Nat} {ret : Option FieldType} {As : List Value} {post : Nat → Mem → Prop} {ci i : Nat} {C : String} {T : u_T} {N : Nat} {fs : List Value} (hi : i < 92) (hE : wE y ad M i = .inr (ci, fs)) (hc : vwCl[ci]? = some (C, T, N)) (hinst : Cond.instanceMethod nm ∈ AW) (hsel : Cond.selects C nm nm ∈ AW) (hM : MR l D y ad nm (Cond.code nm bytes maxL ret) n M (.ref (ad i) :: As) post) (hlink : Cond.methodLink own index nm ∈ AW) (hcode : Cond.code nm bytes maxL ret ∈ AW) (hini : Cond.initialized nm.cls ∈ AW) (hd : nm.cls ≠ "java/lang/invoke/MethodHandle" ∧ nm.cls ≠ "java/lang/invoke/VarHandle" ∧ (parseMethodDescriptor nm.desc).map (fun d => d.parameters.length) = some nn) (hR : n + 1 ≤ R.frames ∧ 8 + (maxL + 11) + 60 * n ≤ R.locals) (hn : As.length = nn) (hW : (st.map fun v => v.category).sum ≤ 8) (hf : kc ≤ R.cells ∧ ks ≤ R.slots) (hdg : decode cc pc = .ok (.invokevirtual index, 3)) (kk : ∀ (r : Nat) (M1 : Mem), post r M1 → J p l e R s m args below meth c kc ks Q D y ad A nL M1 (pc + 3) lv (.ref (ad r) :: st)) : J p l e R s m args below meth c kc ks Q D y ad A nL M (pc) lv (As.reverse ++ .ref (ad i) :: st) := fun H locs ls hP hD hS hl => va_callr (va_runV X.1 (hM H.size) ⟨(callB_of nn X.1.2.2.2.2 (gAW X.2.2.2 hcode) rfl rfl rfl (X.1.2.2.2.2 _ (X.2.2.2 _ hini)) (X.1.2.2.2.2 _ (X.2.2.2 _ hlink)) hd hR), (X.1.2.2.2.2 _ (X.2.2.2 _ hinst)), (X.1.2.2.2.2 _ (X.2.2.2 _ hsel))⟩ ⟨PcM_blind, va_recv X.2.1.1 hP hc (PL_at hi hE), fun U hU hW => PcM_of X.2.1 hP hD hU hW⟩ rfl hn hl.1 rfl (lv_room hW) hdg hf) hS (fun q _ h => PL_free hD hS X.2.2.1 q h) (PL_free hD hS X.2.2.1) (fun u ra t H1 locs1 ht hvm hp hB hz hk1 hS1 => by rw [hB.1]; exact kk u.1 u.2 hp H1 locs1 ls (by rw [← ht]; exact hB.2) (PL_D hD) hS1 hl)
theorem j_callVNR (X : Amb p m c cc nL s args Ts own D y A) {nm : MethodName} {bytes : ByteArray} {maxL n nn index : Nat} {ret : Option FieldType} {As : List Value} {post : Nat → Mem → Prop} {host : String} {ci i : Nat} {C : String} {T : u_T} {N : Nat} {fs : List Value} (hi : i < 92) (hE : wE y ad M i = .inr (ci, fs)) (hc : vwCl[ci]? = some (C, T, N)) (hinst : Cond.instanceMethod nm ∈ AW) (hsel : Cond.selects C nm nm ∈ AW) (hM : MR l D y ad nm (Cond.code nm bytes maxL ret) n M (.ref (ad i) :: As) post) (hlink : (own, index, nm, host) ∈ NWM) (hcode : Cond.code nm bytes maxL ret ∈ AW) (hini : Cond.initialized nm.cls ∈ AW) (hd : nm.cls ≠ "java/lang/invoke/MethodHandle" ∧ nm.cls ≠ "java/lang/invoke/VarHandle" ∧ (parseMethodDescriptor nm.desc).map (fun d => d.parameters.length) = some nn) (hR : n + 1 ≤ R.frames ∧ 8 + (maxL + 11) + 60 * n ≤ R.locals) (hn : As.length = nn) (hW : (st.map fun v => v.category).sum ≤ 8) (hf : kc ≤ R.cells ∧ ks ≤ R.slots) (hdg : decode cc pc = .ok (.invokevirtual index, 3)) (kk : ∀ (r : Nat) (M1 : Mem), post r M1 → J p l e R s m args below meth c kc ks Q D y ad A nL M1 (pc + 3) lv (.ref (ad r) :: st)) : J p l e R s m args below meth c kc ks Q D y ad A nL M (pc) lv (As.reverse ++ .ref (ad i) :: st) := fun H locs ls hP hD hS hl => va_callr (va_runVN X.1 (hM H.size) ⟨(va_cnB nn X.1.2.2.2.2 (gAW X.2.2.2 hcode) rfl rfl rfl (X.2.1.2.2 _ hlink) (X.1.2.2.2.2 _ (X.2.2.2 _ hini)) hd hR), (X.1.2.2.2.2 _ (X.2.2.2 _ hinst)), (X.1.2.2.2.2 _ (X.2.2.2 _ hsel))⟩ ⟨PcM_blind, va_recv X.2.1.1 hP hc (PL_at hi hE), fun U hU hW => PcM_of X.2.1 hP hD hU hW⟩ rfl hn hl.1 rfl (lv_room hW) hdg hf) hS (fun q _ h => PL_free hD hS X.2.2.1 q h) (PL_free hD hS X.2.2.1) (fun u ra t H1 locs1 ht hvm hp hB hz hk1 hS1 => by rw [hB.1]; exact kk u.1 u.2 hp H1 locs1 ls (by rw [← ht]; exact hB.2) (PL_D hD) hS1 hl)
theorem j_callSR (X : Amb p m c cc nL s args Ts own D y A) {nm : MethodName} {bytes : ByteArray} {maxL n nn index : Nat} {ret : Option FieldType} {As : List Value} {post : Nat → Mem → Prop} (hstat : Cond.static nm ∈ AW) (hM : MR l D y ad nm (Cond.code nm bytes maxL ret) n M As post) (hlink : Cond.methodLink own index nm ∈ AW) (hcode : Cond.code nm bytes maxL ret ∈ AW) (hini : Cond.initialized nm.cls ∈ AW) (hd : nm.cls ≠ "java/lang/invoke/MethodHandle" ∧ nm.cls ≠ "java/lang/invoke/VarHandle" ∧ (parseMethodDescriptor nm.desc).map (fun d => d.parameters.length) = some nn) (hR : n + 1 ≤ R.frames ∧ 8 + (maxL + 11) + 60 * n ≤ R.locals) (hn : As.length = nn) (hW : (st.map fun v => v.category).sum ≤ 8) (hf : kc ≤ R.cells ∧ ks ≤ R.slots) (hdg : decode cc pc = .ok (.invokestatic index, 3)) (kk : ∀ (r : Nat) (M1 : Mem), post r M1 → J p l e R s m args below meth c kc ks Q D y ad A nL M1 (pc + 3) lv (.ref (ad r) :: st)) : J p l e R s m args below meth c kc ks Q D y ad A nL M (pc) lv (As.reverse ++ st) := fun H locs ls hP hD hS hl => va_callr (va_runS X.1 (hM H.size) ⟨(callB_of nn X.1.2.2.2.2 (gAW X.2.2.2 hcode) rfl rfl rfl (X.1.2.2.2.2 _ (X.2.2.2 _ hini)) (X.1.2.2.2.2 _ (X.2.2.2 _ hlink)) hd hR), (X.1.2.2.2.2 _ (X.2.2.2 _ hstat))⟩ ⟨PcM_blind, fun U hU hW => PcM_of X.2.1 hP hD hU hW⟩ rfl hn hl.1 rfl (lv_room hW) hdg hf) hS (fun q _ h => PL_free hD hS X.2.2.1 q h) (PL_free hD hS X.2.2.1) (fun u ra t H1 locs1 ht hvm hp hB hz hk1 hS1 => by rw [hB.1]; exact kk u.1 u.2 hp H1 locs1 ls (by rw [← ht]; exact hB.2) (PL_D hD) hS1 hl)
theorem j_callSNR (X : Amb p m c cc nL s args Ts own D y A) {nm : MethodName} {bytes : ByteArray} {maxL n nn index : Nat} {ret : Option FieldType} {As : List Value} {post : Nat → Mem → Prop} {host : String} (hstat : Cond.static nm ∈ AW) (hM : MR l D y ad nm (Cond.code nm bytes maxL ret) n M As post) (hlink : (own, index, nm, host) ∈ NWM) (hcode : Cond.code nm bytes maxL ret ∈ AW) (hini : Cond.initialized nm.cls ∈ AW) (hd : nm.cls ≠ "java/lang/invoke/MethodHandle" ∧ nm.cls ≠ "java/lang/invoke/VarHandle" ∧ (parseMethodDescriptor nm.desc).map (fun d => d.parameters.length) = some nn) (hR : n + 1 ≤ R.frames ∧ 8 + (maxL + 11) + 60 * n ≤ R.locals) (hn : As.length = nn) (hW : (st.map fun v => v.category).sum ≤ 8) (hf : kc ≤ R.cells ∧ ks ≤ R.slots) (hdg : decode cc pc = .ok (.invokestatic index, 3)) (kk : ∀ (r : Nat) (M1 : Mem), post r M1 → J p l e R s m args below meth c kc ks Q D y ad A nL M1 (pc + 3) lv (.ref (ad r) :: st)) : J p l e R s m args below meth c kc ks Q D y ad A nL M (pc) lv (As.reverse ++ st) := fun H locs ls hP hD hS hl => va_callr (va_runSN X.1 (hM H.size) ⟨(va_cnB nn X.1.2.2.2.2 (gAW X.2.2.2 hcode) rfl rfl rfl (X.2.1.2.2 _ hlink) (X.1.2.2.2.2 _ (X.2.2.2 _ hini)) hd hR), (X.1.2.2.2.2 _ (X.2.2.2 _ hstat)), trivial⟩ ⟨PcM_blind, fun U hU hW => PcM_of X.2.1 hP hD hU hW⟩ rfl hn hl.1 rfl (lv_room hW) hdg hf) hS (fun q _ h => PL_free hD hS X.2.2.1 q h) (PL_free hD hS X.2.2.1) (fun u ra t H1 locs1 ht hvm hp hB hz hk1 hS1 => by rw [hB.1]; exact kk u.1 u.2 hp H1 locs1 ls (by rw [← ht]; exact hB.2) (PL_D hD) hS1 hl)
theorem copy0 {i j : Nat} : upA M j (va_cpy (M i) (M j) (0 : Int32).toNatClampNeg (0 : Int32).toNatClampNeg (0 : Int32).toNatClampNeg) = M := by
  funext b k
  by_cases h : b = j
  · subst h
    show (if b = b then va_cpy (M i) (M b) 0 0 0 else M b) k = M b k
    simp [va_cpy]
  · simp [upA, h]
end JJ
section JE
variable {l : Launch} {D : va_G} {y : wY} {ad : Nat → Nat} {M : Mem}
/-- the end of a method, by kind of answer -/
abbrev QI (post : Int32 → Mem → Prop) (D : va_G) (y : wY) (ad : Nat → Nat) (M0 : Mem) (s : State) (args : Array Value) (below : List Frame) : State → Prop := MQ below (va_Qi post (fun M' t => va_P D vwCl (PL y ad M') t.heap) (va_A (PL y ad M0) s.heap.size)) args s 0 0 (va_A (PL y ad M0) s.heap.size)
abbrev QV (post : Mem → Prop) (D : va_G) (y : wY) (ad : Nat → Nat) (M0 : Mem) (s : State) (args : Array Value) (below : List Frame) : State → Prop := MQ below (va_Qv post (fun M' t => va_P D vwCl (PL y ad M') t.heap) (va_A (PL y ad M0) s.heap.size)) args s 0 0 (va_A (PL y ad M0) s.heap.size)
abbrev QR (post : Nat → Mem → Prop) (D : va_G) (y : wY) (ad : Nat → Nat) (M0 : Mem) (s : State) (args : Array Value) (below : List Frame) : State → Prop := MQ below (va_Qr (fun u : Nat × Mem => post u.1 u.2) (fun u a t => a = ad u.1 ∧ va_P D vwCl (PL y ad u.2) t.heap) (va_A (PL y ad M0) s.heap.size)) args s 0 0 (va_A (PL y ad M0) s.heap.size)
theorem j_iret {p : Program} {e : Env} {R : Room} {s : State} {m : MethodId} {args : Array Value} {below : List Frame} {meth : Method} {c : Code} {M0 : Mem} {nL pc : Nat} {lv : List (Nat × Value)} {cc : ByteArray} {Ts : List Cond} {own : String} {post : Int32 → Mem → Prop} {v : Int32} (X : Amb p m c cc nL s args Ts own D y (va_A (PL y ad M0) s.heap.size)) (hr : meth.sig.returnType = some .int) (hlocks : meth.locks = false) (hdg : decode cc pc = .ok (.ireturn, 1)) (hp : post v M) : J p l e R s m args below meth c 0 0 (QI post D y ad M0 s args below) D y ad (va_A (PL y ad M0) s.heap.size) nL M pc lv [.int v] :=
  fun H locs ls hP hD hS hl => W.iret X.1.1 X.1.2.1 hr (fun t ht hW => ⟨⟨v, M, rfl, hp, by show va_P D vwCl (PL y ad M) t.heap; rw [ht]; exact hP⟩, hS.F ht⟩) hS.2.2 hdg hlocks
theorem j_zret {p : Program} {e : Env} {R : Room} {s : State} {m : MethodId} {args : Array Value} {below : List Frame} {meth : Method} {c : Code} {M0 : Mem} {nL pc : Nat} {lv : List (Nat × Value)} {cc : ByteArray} {Ts : List Cond} {own : String} {post : Int32 → Mem → Prop} {v : Int32} (X : Amb p m c cc nL s args Ts own D y (va_A (PL y ad M0) s.heap.size)) (hr : meth.sig.returnType = some .boolean) (hlocks : meth.locks = false) (hz : v = 0 ∨ v = 1) (hdg : decode cc pc = .ok (.ireturn, 1)) (hp : post v M) : J p l e R s m args below meth c 0 0 (QI post D y ad M0 s args below) D y ad (va_A (PL y ad M0) s.heap.size) nL M pc lv [.int v] :=
  fun H locs ls hP hD hS hl => W.zret X.1.1 X.1.2.1 hr (by rcases hz with rfl | rfl <;> rfl) (fun t ht hW => ⟨⟨v, M, rfl, hp, by show va_P D vwCl (PL y ad M) t.heap; rw [ht]; exact hP⟩, hS.F ht⟩) hS.2.2 hdg hlocks
theorem j_vret {p : Program} {e : Env} {R : Room} {s : State} {m : MethodId} {args : Array Value} {below : List Frame} {meth : Method} {c : Code} {M0 : Mem} {nL pc : Nat} {lv : List (Nat × Value)} {cc : ByteArray} {Ts : List Cond} {own : String} {post : Mem → Prop} (X : Amb p m c cc nL s args Ts own D y (va_A (PL y ad M0) s.heap.size)) (hr : meth.sig.returnType = none) (hlocks : meth.locks = false) (hdg : decode cc pc = .ok (.return_, 1)) (hp : post M) : J p l e R s m args below meth c 0 0 (QV post D y ad M0 s args below) D y ad (va_A (PL y ad M0) s.heap.size) nL M pc lv [] :=
  fun H locs ls hP hD hS hl => W.vret X.1.1 X.1.2.1 hr (fun t ht hW => ⟨⟨M, rfl, hp, by show va_P D vwCl (PL y ad M) t.heap; rw [ht]; exact hP⟩, hS.F ht⟩) hS.2.2 hdg hlocks
theorem j_aret {p : Program} {e : Env} {R : Room} {s : State} {m : MethodId} {args : Array Value} {below : List Frame} {meth : Method} {c : Code} {M0 : Mem} {nL pc : Nat} {lv : List (Nat × Value)} {cc : ByteArray} {Ts : List Cond} {own : String} {post : Nat → Mem → Prop} {v : Nat} {o : String} (X : Amb p m c cc nL s args Ts own D y (va_A (PL y ad M0) s.heap.size)) (hr : meth.sig.returnType = some (.object o)) (hlocks : meth.locks = false) (hdg : decode cc pc = .ok (.areturn, 1)) (hp : post v M) : J p l e R s m args below meth c 0 0 (QR post D y ad M0 s args below) D y ad (va_A (PL y ad M0) s.heap.size) nL M pc lv [.ref (ad v)] :=
  fun H locs ls hP hD hS hl => W.aret X.1.1 X.1.2.1 hr (Or.inl ⟨o, rfl⟩) (Or.inr ⟨_, rfl⟩) (fun t ht hW => ⟨⟨(v, M), ad v, rfl, hp, rfl, by show va_P D vwCl (PL y ad M) t.heap; rw [ht]; exact hP⟩, hS.F ht⟩) hS.2.2 hdg hlocks
theorem MI_of {nm : MethodName} {cc : ByteArray} {maxL n : Nat} {ret : Option FieldType} {av : List Value} {post : Int32 → Mem → Prop} (hy : plainName nm.cls = true) (hlen : (lg_sl av).length ≤ maxL)
    (body : ∀ (p : Program) (e : Env) (s : State) (m : MethodId) (args : Array Value) (below : List Frame) (meth : Method) (c : Code), Amb p m c cc maxL s args (wm (Cond.code nm cc maxL ret)) nm.cls D y (va_A (PL y ad M) s.heap.size) → meth.sig.returnType = ret → meth.locks = false → J p l e (rmN n) s m args below meth c 0 0 (QI post D y ad M s args below) D y ad (va_A (PL y ad M) s.heap.size) maxL M 0 (lv_args 0 av) []) :
    MI l D y ad nm (Cond.code nm cc maxL ret) n M av post := by
  intro sz
  refine Met.ofW (cc := cc) (maxL := maxL) (ret := ret) hy rfl ?_
  intro p e s m args below meth c s₁ B hml hv
  obtain ⟨rfl, hsz, hP, hT, hD0⟩ := hv
  subst hsz
  rw [lg_entry_eq]
  exact body p e s m _ below meth c ⟨⟨B.exec, B.bytes, hml, findClass_of_methodNamed B.named, atoms_spec (ws := wm (Cond.code nm cc maxL ret)) B.pre⟩, hT, fun q h => Or.inr h, fun w h => List.mem_cons_of_mem _ h⟩ B.returns B.notSynchronized s.heap [] _ hP hD0.self va_S.rf (lv_entry av hlen)
theorem MV_of {nm : MethodName} {cc : ByteArray} {maxL n : Nat} {ret : Option FieldType} {av : List Value} {post : Mem → Prop} (hy : plainName nm.cls = true) (hlen : (lg_sl av).length ≤ maxL)
    (body : ∀ (p : Program) (e : Env) (s : State) (m : MethodId) (args : Array Value) (below : List Frame) (meth : Method) (c : Code), Amb p m c cc maxL s args (wm (Cond.code nm cc maxL ret)) nm.cls D y (va_A (PL y ad M) s.heap.size) → meth.sig.returnType = ret → meth.locks = false → J p l e (rmN n) s m args below meth c 0 0 (QV post D y ad M s args below) D y ad (va_A (PL y ad M) s.heap.size) maxL M 0 (lv_args 0 av) []) :
    MV l D y ad nm (Cond.code nm cc maxL ret) n M av post := by
  intro sz
  refine Met.ofW (cc := cc) (maxL := maxL) (ret := ret) hy rfl ?_
  intro p e s m args below meth c s₁ B hml hv
  obtain ⟨rfl, hsz, hP, hT, hD0⟩ := hv
  subst hsz
  rw [lg_entry_eq]
  exact body p e s m _ below meth c ⟨⟨B.exec, B.bytes, hml, findClass_of_methodNamed B.named, atoms_spec (ws := wm (Cond.code nm cc maxL ret)) B.pre⟩, hT, fun q h => Or.inr h, fun w h => List.mem_cons_of_mem _ h⟩ B.returns B.notSynchronized s.heap [] _ hP hD0.self va_S.rf (lv_entry av hlen)
theorem MR_of {nm : MethodName} {cc : ByteArray} {maxL n : Nat} {ret : Option FieldType} {av : List Value} {post : Nat → Mem → Prop} (hy : plainName nm.cls = true) (hlen : (lg_sl av).length ≤ maxL)
    (body : ∀ (p : Program) (e : Env) (s : State) (m : MethodId) (args : Array Value) (below : List Frame) (meth : Method) (c : Code), Amb p m c cc maxL s args (wm (Cond.code nm cc maxL ret)) nm.cls D y (va_A (PL y ad M) s.heap.size) → meth.sig.returnType = ret → meth.locks = false → J p l e (rmN n) s m args below meth c 0 0 (QR post D y ad M s args below) D y ad (va_A (PL y ad M) s.heap.size) maxL M 0 (lv_args 0 av) []) :
    MR l D y ad nm (Cond.code nm cc maxL ret) n M av post := by
  intro sz
  refine Met.ofW (cc := cc) (maxL := maxL) (ret := ret) hy rfl ?_
  intro p e s m args below meth c s₁ B hml hv
  obtain ⟨rfl, hsz, hP, hT, hD0⟩ := hv
  subst hsz
  rw [lg_entry_eq]
  exact body p e s m _ below meth c ⟨⟨B.exec, B.bytes, hml, findClass_of_methodNamed B.named, atoms_spec (ws := wm (Cond.code nm cc maxL ret)) B.pre⟩, hT, fun q h => Or.inr h, fun w h => List.mem_cons_of_mem _ h⟩ B.returns B.notSynchronized s.heap [] _ hP hD0.self va_S.rf (lv_entry av hlen)
end JE
end
section
theorem dX7_isWithin_0 : decode cX7_isWithin 0 = .ok (.iload_n 0, 1) := by decide +kernel
theorem dX7_isWithin_1 : decode cX7_isWithin 1 = .ok (.iload_n 1, 1) := by decide +kernel
theorem dX7_isWithin_2 : decode cX7_isWithin 2 = .ok (.if_icmp .lt 12, 3) := by decide +kernel
theorem dX7_isWithin_14 : decode cX7_isWithin 14 = .ok (.iconst 0, 1) := by decide +kernel
theorem dX7_isWithin_15 : decode cX7_isWithin 15 = .ok (.ireturn, 1) := by decide +kernel
theorem dX7_isWithin_5 : decode cX7_isWithin 5 = .ok (.iload_n 0, 1) := by decide +kernel
theorem dX7_isWithin_6 : decode cX7_isWithin 6 = .ok (.iload_n 2, 1) := by decide +kernel
theorem dX7_isWithin_7 : decode cX7_isWithin 7 = .ok (.if_icmp .gt 7, 3) := by decide +kernel
theorem dX7_isWithin_10 : decode cX7_isWithin 10 = .ok (.iconst 1, 1) := by decide +kernel
theorem dX7_isWithin_11 : decode cX7_isWithin 11 = .ok (.goto 4, 3) := by decide +kernel
theorem dX8_in_0 : decode cX8_in 0 = .ok (.iload_n 0, 1) := by decide +kernel
theorem dX8_in_1 : decode cX8_in 1 = .ok (.iload_n 1, 1) := by decide +kernel
theorem dX8_in_2 : decode cX8_in 2 = .ok (.if_icmp .lt 12, 3) := by decide +kernel
theorem dX8_in_14 : decode cX8_in 14 = .ok (.iconst 0, 1) := by decide +kernel
theorem dX8_in_15 : decode cX8_in 15 = .ok (.ireturn, 1) := by decide +kernel
theorem dX8_in_5 : decode cX8_in 5 = .ok (.iload_n 0, 1) := by decide +kernel
theorem dX8_in_6 : decode cX8_in 6 = .ok (.iload_n 2, 1) := by decide +kernel
theorem dX8_in_7 : decode cX8_in 7 = .ok (.if_icmp .gt 7, 3) := by decide +kernel
theorem dX8_in_10 : decode cX8_in 10 = .ok (.iconst 1, 1) := by decide +kernel
theorem dX8_in_11 : decode cX8_in 11 = .ok (.goto 4, 3) := by decide +kernel
theorem dX1_turnInto_0 : decode cX1_turnInto 0 = .ok (.aload_n 0, 1) := by decide +kernel
theorem dX1_turnInto_1 : decode cX1_turnInto 1 = .ok (.iload_n 1, 1) := by decide +kernel
theorem dX1_turnInto_2 : decode cX1_turnInto 2 = .ok (.bipush 10, 2) := by decide +kernel
theorem dX1_turnInto_4 : decode cX1_turnInto 4 = .ok (.idiv, 1) := by decide +kernel
theorem dX1_turnInto_5 : decode cX1_turnInto 5 = .ok (.putfield 9, 3) := by decide +kernel
theorem dX1_turnInto_8 : decode cX1_turnInto 8 = .ok (.aload_n 0, 1) := by decide +kernel
theorem dX1_turnInto_9 : decode cX1_turnInto 9 = .ok (.iload_n 1, 1) := by decide +kernel
theorem dX1_turnInto_10 : decode cX1_turnInto 10 = .ok (.bipush 10, 2) := by decide +kernel
theorem dX1_turnInto_12 : decode cX1_turnInto 12 = .ok (.irem, 1) := by decide +kernel
theorem dX1_turnInto_13 : decode cX1_turnInto 13 = .ok (.putfield 15, 3) := by decide +kernel
theorem dX1_turnInto_16 : decode cX1_turnInto 16 = .ok (.return_, 1) := by decide +kernel
theorem dX1_needs_0 : decode cX1_needs 0 = .ok (.aload_n 0, 1) := by decide +kernel
theorem dX1_needs_1 : decode cX1_needs 1 = .ok (.getfield 9, 3) := by decide +kernel
theorem dX1_needs_4 : decode cX1_needs 4 = .ok (.tableswitch 84 1 6 #[40, 50, 53, 56, 68, 76], 40) := by decide +kernel
theorem dX1_needs_44 : decode cX1_needs 44 = .ok (.bipush 50, 2) := by decide +kernel
theorem dX1_needs_46 : decode cX1_needs 46 = .ok (.iconst 2, 1) := by decide +kernel
theorem dX1_needs_47 : decode cX1_needs 47 = .ok (.aload_n 0, 1) := by decide +kernel
theorem dX1_needs_48 : decode cX1_needs 48 = .ok (.getfield 15, 3) := by decide +kernel
theorem dX1_needs_51 : decode cX1_needs 51 = .ok (.imul, 1) := by decide +kernel
theorem dX1_needs_52 : decode cX1_needs 52 = .ok (.iadd, 1) := by decide +kernel
theorem dX1_needs_53 : decode cX1_needs 53 = .ok (.ireturn, 1) := by decide +kernel
theorem dX1_needs_54 : decode cX1_needs 54 = .ok (.bipush 30, 2) := by decide +kernel
theorem dX1_needs_56 : decode cX1_needs 56 = .ok (.ireturn, 1) := by decide +kernel
theorem dX1_needs_57 : decode cX1_needs 57 = .ok (.bipush 80, 2) := by decide +kernel
theorem dX1_needs_59 : decode cX1_needs 59 = .ok (.ireturn, 1) := by decide +kernel
theorem dX1_needs_60 : decode cX1_needs 60 = .ok (.bipush 50, 2) := by decide +kernel
theorem dX1_needs_62 : decode cX1_needs 62 = .ok (.iconst 2, 1) := by decide +kernel
theorem dX1_needs_63 : decode cX1_needs 63 = .ok (.aload_n 0, 1) := by decide +kernel
theorem dX1_needs_64 : decode cX1_needs 64 = .ok (.getfield 15, 3) := by decide +kernel
theorem dX1_needs_67 : decode cX1_needs 67 = .ok (.imul, 1) := by decide +kernel
theorem dX1_needs_68 : decode cX1_needs 68 = .ok (.iadd, 1) := by decide +kernel
theorem dX1_needs_69 : decode cX1_needs 69 = .ok (.iconst 5, 1) := by decide +kernel
theorem dX1_needs_70 : decode cX1_needs 70 = .ok (.iadd, 1) := by decide +kernel
theorem dX1_needs_71 : decode cX1_needs 71 = .ok (.ireturn, 1) := by decide +kernel
theorem dX1_needs_72 : decode cX1_needs 72 = .ok (.bipush 30, 2) := by decide +kernel
theorem dX1_needs_74 : decode cX1_needs 74 = .ok (.aload_n 0, 1) := by decide +kernel
theorem dX1_needs_75 : decode cX1_needs 75 = .ok (.getfield 15, 3) := by decide +kernel
theorem dX1_needs_78 : decode cX1_needs 78 = .ok (.iadd, 1) := by decide +kernel
theorem dX1_needs_79 : decode cX1_needs 79 = .ok (.ireturn, 1) := by decide +kernel
theorem dX1_needs_80 : decode cX1_needs 80 = .ok (.bipush 80, 2) := by decide +kernel
theorem dX1_needs_82 : decode cX1_needs 82 = .ok (.aload_n 0, 1) := by decide +kernel
theorem dX1_needs_83 : decode cX1_needs 83 = .ok (.getfield 15, 3) := by decide +kernel
theorem dX1_needs_86 : decode cX1_needs 86 = .ok (.isub, 1) := by decide +kernel
theorem dX1_needs_87 : decode cX1_needs 87 = .ok (.ireturn, 1) := by decide +kernel
theorem dX1_needs_88 : decode cX1_needs 88 = .ok (.bipush 50, 2) := by decide +kernel
theorem dX1_needs_90 : decode cX1_needs 90 = .ok (.ireturn, 1) := by decide +kernel
theorem dX1_dulls_0 : decode cX1_dulls 0 = .ok (.aload_n 0, 1) := by decide +kernel
theorem dX1_dulls_1 : decode cX1_dulls 1 = .ok (.getfield 9, 3) := by decide +kernel
theorem dX1_dulls_4 : decode cX1_dulls 4 = .ok (.tableswitch 47 1 6 #[40, 42, 45, 40, 42, 45], 40) := by decide +kernel
theorem dX1_dulls_44 : decode cX1_dulls 44 = .ok (.iconst 4, 1) := by decide +kernel
theorem dX1_dulls_45 : decode cX1_dulls 45 = .ok (.ireturn, 1) := by decide +kernel
theorem dX1_dulls_46 : decode cX1_dulls 46 = .ok (.bipush 6, 2) := by decide +kernel
theorem dX1_dulls_48 : decode cX1_dulls 48 = .ok (.ireturn, 1) := by decide +kernel
theorem dX1_dulls_49 : decode cX1_dulls 49 = .ok (.iconst 1, 1) := by decide +kernel
theorem dX1_dulls_50 : decode cX1_dulls 50 = .ok (.ireturn, 1) := by decide +kernel
theorem dX1_dulls_51 : decode cX1_dulls 51 = .ok (.iconst 3, 1) := by decide +kernel
theorem dX1_dulls_52 : decode cX1_dulls 52 = .ok (.ireturn, 1) := by decide +kernel
theorem dX1_gains_0 : decode cX1_gains 0 = .ok (.aload_n 0, 1) := by decide +kernel
theorem dX1_gains_1 : decode cX1_gains 1 = .ok (.getfield 9, 3) := by decide +kernel
theorem dX1_gains_4 : decode cX1_gains 4 = .ok (.tableswitch 91 1 6 #[40, 47, 51, 55, 74, 89], 40) := by decide +kernel
theorem dX1_gains_44 : decode cX1_gains 44 = .ok (.iload_n 1, 1) := by decide +kernel
theorem dX1_gains_45 : decode cX1_gains 45 = .ok (.aload_n 0, 1) := by decide +kernel
theorem dX1_gains_46 : decode cX1_gains 46 = .ok (.getfield 15, 3) := by decide +kernel
theorem dX1_gains_49 : decode cX1_gains 49 = .ok (.iadd, 1) := by decide +kernel
theorem dX1_gains_50 : decode cX1_gains 50 = .ok (.ireturn, 1) := by decide +kernel
theorem dX1_gains_51 : decode cX1_gains 51 = .ok (.iconst 2, 1) := by decide +kernel
theorem dX1_gains_52 : decode cX1_gains 52 = .ok (.iload_n 1, 1) := by decide +kernel
theorem dX1_gains_53 : decode cX1_gains 53 = .ok (.imul, 1) := by decide +kernel
theorem dX1_gains_54 : decode cX1_gains 54 = .ok (.ireturn, 1) := by decide +kernel
theorem dX1_gains_55 : decode cX1_gains 55 = .ok (.iload_n 1, 1) := by decide +kernel
theorem dX1_gains_56 : decode cX1_gains 56 = .ok (.iconst 2, 1) := by decide +kernel
theorem dX1_gains_57 : decode cX1_gains 57 = .ok (.idiv, 1) := by decide +kernel
theorem dX1_gains_58 : decode cX1_gains 58 = .ok (.ireturn, 1) := by decide +kernel
theorem dX1_gains_59 : decode cX1_gains 59 = .ok (.iconst 0, 1) := by decide +kernel
theorem dX1_gains_60 : decode cX1_gains 60 = .ok (.iload_n 1, 1) := by decide +kernel
theorem dX1_gains_61 : decode cX1_gains 61 = .ok (.aload_n 0, 1) := by decide +kernel
theorem dX1_gains_62 : decode cX1_gains 62 = .ok (.getfield 15, 3) := by decide +kernel
theorem dX1_gains_65 : decode cX1_gains 65 = .ok (.iadd, 1) := by decide +kernel
theorem dX1_gains_66 : decode cX1_gains 66 = .ok (.aload_n 0, 1) := by decide +kernel
theorem dX1_gains_67 : decode cX1_gains 67 = .ok (.getfield 27, 3) := by decide +kernel
theorem dX1_gains_70 : decode cX1_gains 70 = .ok (.bipush 10, 2) := by decide +kernel
theorem dX1_gains_72 : decode cX1_gains 72 = .ok (.idiv, 1) := by decide +kernel
theorem dX1_gains_73 : decode cX1_gains 73 = .ok (.isub, 1) := by decide +kernel
theorem dX1_gains_74 : decode cX1_gains 74 = .ok (.invokestatic 38, 3) := by decide +kernel
theorem dX1_gains_77 : decode cX1_gains 77 = .ok (.ireturn, 1) := by decide +kernel
theorem dX1_gains_78 : decode cX1_gains 78 = .ok (.iload_n 2, 1) := by decide +kernel
theorem dX1_gains_79 : decode cX1_gains 79 = .ok (.bipush 6, 2) := by decide +kernel
theorem dX1_gains_81 : decode cX1_gains 81 = .ok (.irem, 1) := by decide +kernel
theorem dX1_gains_82 : decode cX1_gains 82 = .ok (.ifCond .ne 7, 3) := by decide +kernel
theorem dX1_gains_89 : decode cX1_gains 89 = .ok (.iconst 2, 1) := by decide +kernel
theorem dX1_gains_90 : decode cX1_gains 90 = .ok (.iload_n 1, 1) := by decide +kernel
theorem dX1_gains_91 : decode cX1_gains 91 = .ok (.imul, 1) := by decide +kernel
theorem dX1_gains_92 : decode cX1_gains 92 = .ok (.ireturn, 1) := by decide +kernel
theorem dX1_gains_85 : decode cX1_gains 85 = .ok (.iconst 0, 1) := by decide +kernel
theorem dX1_gains_86 : decode cX1_gains 86 = .ok (.goto 6, 3) := by decide +kernel
theorem dX1_gains_93 : decode cX1_gains 93 = .ok (.iconst 0, 1) := by decide +kernel
theorem dX1_gains_94 : decode cX1_gains 94 = .ok (.ireturn, 1) := by decide +kernel
theorem dX1_gains_95 : decode cX1_gains 95 = .ok (.iload_n 1, 1) := by decide +kernel
theorem dX1_gains_96 : decode cX1_gains 96 = .ok (.ireturn, 1) := by decide +kernel
theorem dX4_joined_0 : decode cX4_joined 0 = .ok (.iload_n 0, 1) := by decide +kernel
theorem dX4_joined_1 : decode cX4_joined 1 = .ok (.lookupswitch 188 #[(37, 176), (38, 105), (42, 160), (43, 152), (45, 156), (47, 164), (60, 119), (61, 130), (62, 141), (124, 91)], 91) := by decide +kernel
theorem dX4_joined_177 : decode cX4_joined 177 = .ok (.iload_n 2, 1) := by decide +kernel
theorem dX4_joined_178 : decode cX4_joined 178 = .ok (.ifCond .ne 7, 3) := by decide +kernel
theorem dX4_joined_185 : decode cX4_joined 185 = .ok (.iload_n 1, 1) := by decide +kernel
theorem dX4_joined_186 : decode cX4_joined 186 = .ok (.iload_n 2, 1) := by decide +kernel
theorem dX4_joined_187 : decode cX4_joined 187 = .ok (.irem, 1) := by decide +kernel
theorem dX4_joined_188 : decode cX4_joined 188 = .ok (.ireturn, 1) := by decide +kernel
theorem dX4_joined_181 : decode cX4_joined 181 = .ok (.iconst 0, 1) := by decide +kernel
theorem dX4_joined_182 : decode cX4_joined 182 = .ok (.goto 6, 3) := by decide +kernel
theorem dX4_joined_106 : decode cX4_joined 106 = .ok (.iload_n 1, 1) := by decide +kernel
theorem dX4_joined_107 : decode cX4_joined 107 = .ok (.ifCond .eq 11, 3) := by decide +kernel
theorem dX4_joined_118 : decode cX4_joined 118 = .ok (.iconst 0, 1) := by decide +kernel
theorem dX4_joined_119 : decode cX4_joined 119 = .ok (.ireturn, 1) := by decide +kernel
theorem dX4_joined_110 : decode cX4_joined 110 = .ok (.iload_n 2, 1) := by decide +kernel
theorem dX4_joined_111 : decode cX4_joined 111 = .ok (.ifCond .eq 7, 3) := by decide +kernel
theorem dX4_joined_114 : decode cX4_joined 114 = .ok (.iconst 1, 1) := by decide +kernel
theorem dX4_joined_115 : decode cX4_joined 115 = .ok (.goto 4, 3) := by decide +kernel
theorem dX4_joined_161 : decode cX4_joined 161 = .ok (.iload_n 1, 1) := by decide +kernel
theorem dX4_joined_162 : decode cX4_joined 162 = .ok (.iload_n 2, 1) := by decide +kernel
theorem dX4_joined_163 : decode cX4_joined 163 = .ok (.imul, 1) := by decide +kernel
theorem dX4_joined_164 : decode cX4_joined 164 = .ok (.ireturn, 1) := by decide +kernel
theorem dX4_joined_153 : decode cX4_joined 153 = .ok (.iload_n 1, 1) := by decide +kernel
theorem dX4_joined_154 : decode cX4_joined 154 = .ok (.iload_n 2, 1) := by decide +kernel
theorem dX4_joined_155 : decode cX4_joined 155 = .ok (.iadd, 1) := by decide +kernel
theorem dX4_joined_156 : decode cX4_joined 156 = .ok (.ireturn, 1) := by decide +kernel
theorem dX4_joined_157 : decode cX4_joined 157 = .ok (.iload_n 1, 1) := by decide +kernel
theorem dX4_joined_158 : decode cX4_joined 158 = .ok (.iload_n 2, 1) := by decide +kernel
theorem dX4_joined_159 : decode cX4_joined 159 = .ok (.isub, 1) := by decide +kernel
theorem dX4_joined_160 : decode cX4_joined 160 = .ok (.ireturn, 1) := by decide +kernel
theorem dX4_joined_165 : decode cX4_joined 165 = .ok (.iload_n 2, 1) := by decide +kernel
theorem dX4_joined_166 : decode cX4_joined 166 = .ok (.ifCond .ne 7, 3) := by decide +kernel
theorem dX4_joined_173 : decode cX4_joined 173 = .ok (.iload_n 1, 1) := by decide +kernel
theorem dX4_joined_174 : decode cX4_joined 174 = .ok (.iload_n 2, 1) := by decide +kernel
theorem dX4_joined_175 : decode cX4_joined 175 = .ok (.idiv, 1) := by decide +kernel
theorem dX4_joined_176 : decode cX4_joined 176 = .ok (.ireturn, 1) := by decide +kernel
theorem dX4_joined_169 : decode cX4_joined 169 = .ok (.iconst 0, 1) := by decide +kernel
theorem dX4_joined_170 : decode cX4_joined 170 = .ok (.goto 6, 3) := by decide +kernel
theorem dX4_joined_120 : decode cX4_joined 120 = .ok (.iload_n 1, 1) := by decide +kernel
theorem dX4_joined_121 : decode cX4_joined 121 = .ok (.iload_n 2, 1) := by decide +kernel
theorem dX4_joined_122 : decode cX4_joined 122 = .ok (.if_icmp .ge 7, 3) := by decide +kernel
theorem dX4_joined_129 : decode cX4_joined 129 = .ok (.iconst 0, 1) := by decide +kernel
theorem dX4_joined_130 : decode cX4_joined 130 = .ok (.ireturn, 1) := by decide +kernel
theorem dX4_joined_125 : decode cX4_joined 125 = .ok (.iconst 1, 1) := by decide +kernel
theorem dX4_joined_126 : decode cX4_joined 126 = .ok (.goto 4, 3) := by decide +kernel
theorem dX4_joined_131 : decode cX4_joined 131 = .ok (.iload_n 1, 1) := by decide +kernel
theorem dX4_joined_132 : decode cX4_joined 132 = .ok (.iload_n 2, 1) := by decide +kernel
theorem dX4_joined_133 : decode cX4_joined 133 = .ok (.if_icmp .ne 7, 3) := by decide +kernel
theorem dX4_joined_140 : decode cX4_joined 140 = .ok (.iconst 0, 1) := by decide +kernel
theorem dX4_joined_141 : decode cX4_joined 141 = .ok (.ireturn, 1) := by decide +kernel
theorem dX4_joined_136 : decode cX4_joined 136 = .ok (.iconst 1, 1) := by decide +kernel
theorem dX4_joined_137 : decode cX4_joined 137 = .ok (.goto 4, 3) := by decide +kernel
theorem dX4_joined_142 : decode cX4_joined 142 = .ok (.iload_n 1, 1) := by decide +kernel
theorem dX4_joined_143 : decode cX4_joined 143 = .ok (.iload_n 2, 1) := by decide +kernel
theorem dX4_joined_144 : decode cX4_joined 144 = .ok (.if_icmp .le 7, 3) := by decide +kernel
theorem dX4_joined_151 : decode cX4_joined 151 = .ok (.iconst 0, 1) := by decide +kernel
theorem dX4_joined_152 : decode cX4_joined 152 = .ok (.ireturn, 1) := by decide +kernel
theorem dX4_joined_147 : decode cX4_joined 147 = .ok (.iconst 1, 1) := by decide +kernel
theorem dX4_joined_148 : decode cX4_joined 148 = .ok (.goto 4, 3) := by decide +kernel
theorem dX4_joined_92 : decode cX4_joined 92 = .ok (.iload_n 1, 1) := by decide +kernel
theorem dX4_joined_93 : decode cX4_joined 93 = .ok (.ifCond .ne 7, 3) := by decide +kernel
theorem dX4_joined_100 : decode cX4_joined 100 = .ok (.iconst 1, 1) := by decide +kernel
theorem dX4_joined_101 : decode cX4_joined 101 = .ok (.goto 4, 3) := by decide +kernel
theorem dX4_joined_105 : decode cX4_joined 105 = .ok (.ireturn, 1) := by decide +kernel
theorem dX4_joined_96 : decode cX4_joined 96 = .ok (.iload_n 2, 1) := by decide +kernel
theorem dX4_joined_97 : decode cX4_joined 97 = .ok (.ifCond .eq 7, 3) := by decide +kernel
theorem dX4_joined_104 : decode cX4_joined 104 = .ok (.iconst 0, 1) := by decide +kernel
theorem dX4_joined_189 : decode cX4_joined 189 = .ok (.iload_n 1, 1) := by decide +kernel
theorem dX4_joined_190 : decode cX4_joined 190 = .ok (.ifCond .ne 7, 3) := by decide +kernel
theorem dX4_joined_197 : decode cX4_joined 197 = .ok (.iconst 0, 1) := by decide +kernel
theorem dX4_joined_198 : decode cX4_joined 198 = .ok (.ireturn, 1) := by decide +kernel
theorem dX4_joined_193 : decode cX4_joined 193 = .ok (.iconst 1, 1) := by decide +kernel
theorem dX4_joined_194 : decode cX4_joined 194 = .ok (.goto 4, 3) := by decide +kernel
theorem nI_m1 {n : Nat} (hn : n < 2 ^ 30) : (nI n - 1).toInt = (n : Int) - 1 := pk_sub_toInt (b := 1) hn (by decide)
set_option maxRecDepth 100000 in
set_option maxHeartbeats 4000000 in
theorem g_X7_isWithin (l : Launch) (D : va_G) (y : wY) (ad : Nat → Nat) (M : Mem) (v a b : Int32) (ia ib : Int) (ha : a.toInt = ia) (hb : b.toInt = ib) : MI l D y ad yX7_isWithin (Cond.code yX7_isWithin cX7_isWithin 3 (some .boolean)) 0 M [.int v, .int a, .int b] (fun r M' => (1 = r ∧ M = M' ∧ ia ≤ v.toInt ∧ v.toInt ≤ ib) ∨ (0 = r ∧ M = M' ∧ ¬ (ia ≤ v.toInt ∧ v.toInt ≤ ib))) := by
  refine MI_of (by decide) (Nat.le_of_ble_eq_true rfl) ?_
  intro p e s m args below meth c X hr hlocks
  refine j_lv (lv1 := [(0, .int v), (1, .int a), (2, .int b)]) [0, 1, 2] rfl ?_
  refine j_iload_n X 0 rfl rfl dX7_isWithin_0 ?_
  refine j_iload_n X 1 rfl rfl dX7_isWithin_1 ?_
  refine j_icmp_lt X 14 (by decide) dX7_isWithin_2 (fun c_1 => ?_) (fun c_1 => ?_)
  · have qc_1 := ti_lt (a := v.toInt) (b := a.toInt) rfl rfl c_1
    refine j_iconst X (v := 0) (by decide) dX7_isWithin_14 ?_
    exact j_zret X hr hlocks (Or.inl rfl) dX7_isWithin_15 (Or.inr ⟨rfl, rfl, by omega⟩)
  · have qc_1 := ti_nlt (a := v.toInt) (b := a.toInt) rfl rfl c_1
    refine j_iload_n X 0 rfl rfl dX7_isWithin_5 ?_
    refine j_iload_n X 2 rfl rfl dX7_isWithin_6 ?_
    refine j_icmp_gt X 14 (by decide) dX7_isWithin_7 (fun c_2 => ?_) (fun c_2 => ?_)
    · have qc_2 := ti_lt (a := b.toInt) (b := v.toInt) rfl rfl c_2
      refine j_iconst X (v := 0) (by decide) dX7_isWithin_14 ?_
      exact j_zret X hr hlocks (Or.inl rfl) dX7_isWithin_15 (Or.inr ⟨rfl, rfl, by omega⟩)
    · have qc_2 := ti_nlt (a := b.toInt) (b := v.toInt) rfl rfl c_2
      refine j_iconst X (v := 1) (by decide) dX7_isWithin_10 ?_
      refine j_goto X 15 (by decide) dX7_isWithin_11 ?_
      exact j_zret X hr hlocks (Or.inr rfl) dX7_isWithin_15 (Or.inl ⟨rfl, rfl, by omega⟩)
set_option maxRecDepth 100000 in
set_option maxHeartbeats 4000000 in
theorem g_X8_in (l : Launch) (D : va_G) (y : wY) (ad : Nat → Nat) (M : Mem) (v a b : Int32) (ia ib : Int) (ha : a.toInt = ia) (hb : b.toInt = ib) : MI l D y ad yX8_in (Cond.code yX8_in cX8_in 3 (some .boolean)) 0 M [.int v, .int a, .int b] (fun r M' => (1 = r ∧ M = M' ∧ ia ≤ v.toInt ∧ v.toInt ≤ ib) ∨ (0 = r ∧ M = M' ∧ ¬ (ia ≤ v.toInt ∧ v.toInt ≤ ib))) := by
  refine MI_of (by decide) (Nat.le_of_ble_eq_true rfl) ?_
  intro p e s m args below meth c X hr hlocks
  refine j_lv (lv1 := [(0, .int v), (1, .int a), (2, .int b)]) [0, 1, 2] rfl ?_
  refine j_iload_n X 0 rfl rfl dX8_in_0 ?_
  refine j_iload_n X 1 rfl rfl dX8_in_1 ?_
  refine j_icmp_lt X 14 (by decide) dX8_in_2 (fun c_1 => ?_) (fun c_1 => ?_)
  · have qc_1 := ti_lt (a := v.toInt) (b := a.toInt) rfl rfl c_1
    refine j_iconst X (v := 0) (by decide) dX8_in_14 ?_
    exact j_zret X hr hlocks (Or.inl rfl) dX8_in_15 (Or.inr ⟨rfl, rfl, by omega⟩)
  · have qc_1 := ti_nlt (a := v.toInt) (b := a.toInt) rfl rfl c_1
    refine j_iload_n X 0 rfl rfl dX8_in_5 ?_
    refine j_iload_n X 2 rfl rfl dX8_in_6 ?_
    refine j_icmp_gt X 14 (by decide) dX8_in_7 (fun c_2 => ?_) (fun c_2 => ?_)
    · have qc_2 := ti_lt (a := b.toInt) (b := v.toInt) rfl rfl c_2
      refine j_iconst X (v := 0) (by decide) dX8_in_14 ?_
      exact j_zret X hr hlocks (Or.inl rfl) dX8_in_15 (Or.inr ⟨rfl, rfl, by omega⟩)
    · have qc_2 := ti_nlt (a := b.toInt) (b := v.toInt) rfl rfl c_2
      refine j_iconst X (v := 1) (by decide) dX8_in_10 ?_
      refine j_goto X 15 (by decide) dX8_in_11 ?_
      exact j_zret X hr hlocks (Or.inr rfl) dX8_in_15 (Or.inl ⟨rfl, rfl, by omega⟩)
set_option maxRecDepth 100000 in
set_option maxHeartbeats 4000000 in
theorem g_turnInto (l : Launch) (D : va_G) (y : wY) (ad : Nat → Nat) (M : Mem) (c0 : Nat) (hc0 : c0 < 92) (hk0 : kd c0 = 1) (K : Nat) (hK : K ≤ 69) : MV l D y ad yX1_turnInto (Cond.code yX1_turnInto cX1_turnInto 2 none) 0 M [.ref (ad c0), .int (nI K)] (fun M' => up (up M c0 0 (nI (K / 10))) c0 1 (nI (K % 10)) = M') := by
  refine MV_of (by decide) (Nat.le_of_ble_eq_true rfl) ?_
  intro p e s m args below meth c X hr hlocks
  refine j_lv (lv1 := [(0, .ref (ad c0)), (1, .int (nI K))]) [0, 1] rfl ?_
  refine j_aload_n X 0 rfl rfl dX1_turnInto_0 ?_
  refine j_iload_n X 1 rfl rfl dX1_turnInto_1 ?_
  refine j_bipush X (v := 10) (by decide) dX1_turnInto_2 ?_
  refine j_idiv X (by decide) dX1_turnInto_4 ?_
  refine j_eqi (v := nI (K / 10)) (pk_div (d := 10) (by omega) (by decide) (by decide)) ?_
  refine j_put X (up M c0 0 (nI (K / 10))) up_o hc0 (wE_1 _ hk0) rfl awF1 0 (by decide) (wP_1_0 _ _ hk0) tyX1 tyX1_ok nmX1 rfl (ty := .int) (by decide +kernel) rfl rfl (Nat.le_of_ble_eq_true rfl) aw_175 rfl dX1_turnInto_5 ?_
  refine j_aload_n X 0 rfl rfl dX1_turnInto_8 ?_
  refine j_iload_n X 1 rfl rfl dX1_turnInto_9 ?_
  refine j_bipush X (v := 10) (by decide) dX1_turnInto_10 ?_
  refine j_irem X (by decide) dX1_turnInto_12 ?_
  refine j_eqi (v := nI (K % 10)) (pk_rem (d := 10) (by omega) (by decide) (by decide)) ?_
  refine j_put X (up (up M c0 0 (nI (K / 10))) c0 1 (nI (K % 10))) up_o hc0 (wE_1 _ hk0) rfl awF1 1 (by decide) (wP_1_1 _ _ hk0) tyX1 tyX1_ok nmX1 rfl (ty := .int) (by decide +kernel) rfl rfl (Nat.le_of_ble_eq_true rfl) aw_176 rfl dX1_turnInto_13 ?_
  exact j_vret X hr hlocks dX1_turnInto_16 rfl
set_option maxRecDepth 100000 in
set_option maxHeartbeats 4000000 in
theorem g_needs (l : Launch) (D : va_G) (y : wY) (ad : Nat → Nat) (M : Mem) (c0 : Nat) (hc0 : c0 < 92) (hk0 : kd c0 = 1) : MI l D y ad yX1_needs (Cond.code yX1_needs cX1_needs 1 (some .int)) 0 M [.ref (ad c0)] (fun _ M' => M = M') := by
  refine MI_of (by decide) (Nat.le_of_ble_eq_true rfl) ?_
  intro p e s m args below meth c X hr hlocks
  refine j_lv (lv1 := [(0, .ref (ad c0))]) [0] rfl ?_
  refine j_aload_n X 0 rfl rfl dX1_needs_0 ?_
  refine j_get X hc0 (wE_1 _ hk0) rfl awF1 0 (by decide) aw_175 rfl (v := .int (M c0 0)) rfl dX1_needs_1 ?_
  by_cases w_1 : (M c0 0) = 1
  · refine j_tsw_in X 44 1 w_1 (by decide) (by decide) (off := 40) rfl (by decide) dX1_needs_4 ?_
    have qw_1 := ti_eq (n := 1) (by decide) w_1
    refine j_bipush X (v := 50) (by decide) dX1_needs_44 ?_
    refine j_iconst X (v := 2) (by decide) dX1_needs_46 ?_
    refine j_aload_n X 0 rfl rfl dX1_needs_47 ?_
    refine j_get X hc0 (wE_1 _ hk0) rfl awF1 1 (by decide) aw_176 rfl (v := .int (M c0 1)) rfl dX1_needs_48 ?_
    refine j_imul X dX1_needs_51 ?_
    refine j_iadd X dX1_needs_52 ?_
    exact j_iret X hr hlocks dX1_needs_53 rfl
  by_cases w_2 : (M c0 0) = 2
  · refine j_tsw_in X 54 2 w_2 (by decide) (by decide) (off := 50) rfl (by decide) dX1_needs_4 ?_
    have qw_2 := ti_eq (n := 2) (by decide) w_2
    refine j_bipush X (v := 30) (by decide) dX1_needs_54 ?_
    exact j_iret X hr hlocks dX1_needs_56 rfl
  by_cases w_3 : (M c0 0) = 3
  · refine j_tsw_in X 57 3 w_3 (by decide) (by decide) (off := 53) rfl (by decide) dX1_needs_4 ?_
    have qw_3 := ti_eq (n := 3) (by decide) w_3
    refine j_bipush X (v := 80) (by decide) dX1_needs_57 ?_
    exact j_iret X hr hlocks dX1_needs_59 rfl
  by_cases w_4 : (M c0 0) = 4
  · refine j_tsw_in X 60 4 w_4 (by decide) (by decide) (off := 56) rfl (by decide) dX1_needs_4 ?_
    have qw_4 := ti_eq (n := 4) (by decide) w_4
    refine j_bipush X (v := 50) (by decide) dX1_needs_60 ?_
    refine j_iconst X (v := 2) (by decide) dX1_needs_62 ?_
    refine j_aload_n X 0 rfl rfl dX1_needs_63 ?_
    refine j_get X hc0 (wE_1 _ hk0) rfl awF1 1 (by decide) aw_176 rfl (v := .int (M c0 1)) rfl dX1_needs_64 ?_
    refine j_imul X dX1_needs_67 ?_
    refine j_iadd X dX1_needs_68 ?_
    refine j_iconst X (v := 5) (by decide) dX1_needs_69 ?_
    refine j_iadd X dX1_needs_70 ?_
    exact j_iret X hr hlocks dX1_needs_71 rfl
  by_cases w_5 : (M c0 0) = 5
  · refine j_tsw_in X 72 5 w_5 (by decide) (by decide) (off := 68) rfl (by decide) dX1_needs_4 ?_
    have qw_5 := ti_eq (n := 5) (by decide) w_5
    refine j_bipush X (v := 30) (by decide) dX1_needs_72 ?_
    refine j_aload_n X 0 rfl rfl dX1_needs_74 ?_
    refine j_get X hc0 (wE_1 _ hk0) rfl awF1 1 (by decide) aw_176 rfl (v := .int (M c0 1)) rfl dX1_needs_75 ?_
    refine j_iadd X dX1_needs_78 ?_
    exact j_iret X hr hlocks dX1_needs_79 rfl
  by_cases w_6 : (M c0 0) = 6
  · refine j_tsw_in X 80 6 w_6 (by decide) (by decide) (off := 76) rfl (by decide) dX1_needs_4 ?_
    have qw_6 := ti_eq (n := 6) (by decide) w_6
    refine j_bipush X (v := 80) (by decide) dX1_needs_80 ?_
    refine j_aload_n X 0 rfl rfl dX1_needs_82 ?_
    refine j_get X hc0 (wE_1 _ hk0) rfl awF1 1 (by decide) aw_176 rfl (v := .int (M c0 1)) rfl dX1_needs_83 ?_
    refine j_isub X dX1_needs_86 ?_
    exact j_iret X hr hlocks dX1_needs_87 rfl
  have qw_1 := ti_ne (n := 1) (by decide) w_1
  have qw_2 := ti_ne (n := 2) (by decide) w_2
  have qw_3 := ti_ne (n := 3) (by decide) w_3
  have qw_4 := ti_ne (n := 4) (by decide) w_4
  have qw_5 := ti_ne (n := 5) (by decide) w_5
  have qw_6 := ti_ne (n := 6) (by decide) w_6
  refine j_tsw_out X 88 (by omega) (by decide) dX1_needs_4 ?_
  refine j_bipush X (v := 50) (by decide) dX1_needs_88 ?_
  exact j_iret X hr hlocks dX1_needs_90 rfl
set_option maxRecDepth 100000 in
set_option maxHeartbeats 4000000 in
theorem g_dulls (l : Launch) (D : va_G) (y : wY) (ad : Nat → Nat) (M : Mem) (c0 : Nat) (hc0 : c0 < 92) (hk0 : kd c0 = 1) : MI l D y ad yX1_dulls (Cond.code yX1_dulls cX1_dulls 1 (some .int)) 0 M [.ref (ad c0)] (fun _ M' => M = M') := by
  refine MI_of (by decide) (Nat.le_of_ble_eq_true rfl) ?_
  intro p e s m args below meth c X hr hlocks
  refine j_lv (lv1 := [(0, .ref (ad c0))]) [0] rfl ?_
  refine j_aload_n X 0 rfl rfl dX1_dulls_0 ?_
  refine j_get X hc0 (wE_1 _ hk0) rfl awF1 0 (by decide) aw_175 rfl (v := .int (M c0 0)) rfl dX1_dulls_1 ?_
  by_cases w_1 : (M c0 0) = 1
  · refine j_tsw_in X 44 1 w_1 (by decide) (by decide) (off := 40) rfl (by decide) dX1_dulls_4 ?_
    have qw_1 := ti_eq (n := 1) (by decide) w_1
    refine j_iconst X (v := 4) (by decide) dX1_dulls_44 ?_
    exact j_iret X hr hlocks dX1_dulls_45 rfl
  by_cases w_2 : (M c0 0) = 2
  · refine j_tsw_in X 46 2 w_2 (by decide) (by decide) (off := 42) rfl (by decide) dX1_dulls_4 ?_
    have qw_2 := ti_eq (n := 2) (by decide) w_2
    refine j_bipush X (v := 6) (by decide) dX1_dulls_46 ?_
    exact j_iret X hr hlocks dX1_dulls_48 rfl
  by_cases w_3 : (M c0 0) = 3
  · refine j_tsw_in X 49 3 w_3 (by decide) (by decide) (off := 45) rfl (by decide) dX1_dulls_4 ?_
    have qw_3 := ti_eq (n := 3) (by decide) w_3
    refine j_iconst X (v := 1) (by decide) dX1_dulls_49 ?_
    exact j_iret X hr hlocks dX1_dulls_50 rfl
  by_cases w_4 : (M c0 0) = 4
  · refine j_tsw_in X 44 4 w_4 (by decide) (by decide) (off := 40) rfl (by decide) dX1_dulls_4 ?_
    have qw_4 := ti_eq (n := 4) (by decide) w_4
    refine j_iconst X (v := 4) (by decide) dX1_dulls_44 ?_
    exact j_iret X hr hlocks dX1_dulls_45 rfl
  by_cases w_5 : (M c0 0) = 5
  · refine j_tsw_in X 46 5 w_5 (by decide) (by decide) (off := 42) rfl (by decide) dX1_dulls_4 ?_
    have qw_5 := ti_eq (n := 5) (by decide) w_5
    refine j_bipush X (v := 6) (by decide) dX1_dulls_46 ?_
    exact j_iret X hr hlocks dX1_dulls_48 rfl
  by_cases w_6 : (M c0 0) = 6
  · refine j_tsw_in X 49 6 w_6 (by decide) (by decide) (off := 45) rfl (by decide) dX1_dulls_4 ?_
    have qw_6 := ti_eq (n := 6) (by decide) w_6
    refine j_iconst X (v := 1) (by decide) dX1_dulls_49 ?_
    exact j_iret X hr hlocks dX1_dulls_50 rfl
  have qw_1 := ti_ne (n := 1) (by decide) w_1
  have qw_2 := ti_ne (n := 2) (by decide) w_2
  have qw_3 := ti_ne (n := 3) (by decide) w_3
  have qw_4 := ti_ne (n := 4) (by decide) w_4
  have qw_5 := ti_ne (n := 5) (by decide) w_5
  have qw_6 := ti_ne (n := 6) (by decide) w_6
  refine j_tsw_out X 51 (by omega) (by decide) dX1_dulls_4 ?_
  refine j_iconst X (v := 3) (by decide) dX1_dulls_51 ?_
  exact j_iret X hr hlocks dX1_dulls_52 rfl
set_option maxRecDepth 100000 in
set_option maxHeartbeats 4000000 in
theorem g_gains (l : Launch) (D : va_G) (y : wY) (ad : Nat → Nat) (M : Mem) (c0 : Nat) (hc0 : c0 < 92) (hk0 : kd c0 = 1) (v dd : Int32) : MI l D y ad yX1_gains (Cond.code yX1_gains cX1_gains 3 (some .int)) 1 M [.ref (ad c0), .int v, .int dd] (fun _ M' => M = M') := by
  refine MI_of (by decide) (Nat.le_of_ble_eq_true rfl) ?_
  intro p e s m args below meth c X hr hlocks
  refine j_lv (lv1 := [(0, .ref (ad c0)), (1, .int v), (2, .int dd)]) [0, 1, 2] rfl ?_
  refine j_aload_n X 0 rfl rfl dX1_gains_0 ?_
  refine j_get X hc0 (wE_1 _ hk0) rfl awF1 0 (by decide) aw_175 rfl (v := .int (M c0 0)) rfl dX1_gains_1 ?_
  by_cases w_1 : (M c0 0) = 1
  · refine j_tsw_in X 44 1 w_1 (by decide) (by decide) (off := 40) rfl (by decide) dX1_gains_4 ?_
    have qw_1 := ti_eq (n := 1) (by decide) w_1
    refine j_iload_n X 1 rfl rfl dX1_gains_44 ?_
    refine j_aload_n X 0 rfl rfl dX1_gains_45 ?_
    refine j_get X hc0 (wE_1 _ hk0) rfl awF1 1 (by decide) aw_176 rfl (v := .int (M c0 1)) rfl dX1_gains_46 ?_
    refine j_iadd X dX1_gains_49 ?_
    exact j_iret X hr hlocks dX1_gains_50 rfl
  by_cases w_2 : (M c0 0) = 2
  · refine j_tsw_in X 51 2 w_2 (by decide) (by decide) (off := 47) rfl (by decide) dX1_gains_4 ?_
    have qw_2 := ti_eq (n := 2) (by decide) w_2
    refine j_iconst X (v := 2) (by decide) dX1_gains_51 ?_
    refine j_iload_n X 1 rfl rfl dX1_gains_52 ?_
    refine j_imul X dX1_gains_53 ?_
    exact j_iret X hr hlocks dX1_gains_54 rfl
  by_cases w_3 : (M c0 0) = 3
  · refine j_tsw_in X 55 3 w_3 (by decide) (by decide) (off := 51) rfl (by decide) dX1_gains_4 ?_
    have qw_3 := ti_eq (n := 3) (by decide) w_3
    refine j_iload_n X 1 rfl rfl dX1_gains_55 ?_
    refine j_iconst X (v := 2) (by decide) dX1_gains_56 ?_
    refine j_idiv X (by decide) dX1_gains_57 ?_
    exact j_iret X hr hlocks dX1_gains_58 rfl
  by_cases w_4 : (M c0 0) = 4
  · refine j_tsw_in X 59 4 w_4 (by decide) (by decide) (off := 55) rfl (by decide) dX1_gains_4 ?_
    have qw_4 := ti_eq (n := 4) (by decide) w_4
    refine j_iconst X (v := 0) (by decide) dX1_gains_59 ?_
    refine j_iload_n X 1 rfl rfl dX1_gains_60 ?_
    refine j_aload_n X 0 rfl rfl dX1_gains_61 ?_
    refine j_get X hc0 (wE_1 _ hk0) rfl awF1 1 (by decide) aw_176 rfl (v := .int (M c0 1)) rfl dX1_gains_62 ?_
    refine j_iadd X dX1_gains_65 ?_
    refine j_aload_n X 0 rfl rfl dX1_gains_66 ?_
    refine j_get X hc0 (wE_1 _ hk0) rfl awF1 5 (by decide) aw_218 rfl (v := .int (M c0 5)) rfl dX1_gains_67 ?_
    refine j_bipush X (v := 10) (by decide) dX1_gains_70 ?_
    refine j_idiv X (by decide) dX1_gains_72 ?_
    refine j_isub X dX1_gains_73 ?_
    refine j_mmax X aw_219 aw_206 aw_203 aw_207 (by decide) (Nat.le_of_ble_eq_true rfl) (by decide) (by decide) dX1_gains_74 ?_
    exact j_iret X hr hlocks dX1_gains_77 rfl
  by_cases w_5 : (M c0 0) = 5
  · refine j_tsw_in X 78 5 w_5 (by decide) (by decide) (off := 74) rfl (by decide) dX1_gains_4 ?_
    have qw_5 := ti_eq (n := 5) (by decide) w_5
    refine j_iload_n X 2 rfl rfl dX1_gains_78 ?_
    refine j_bipush X (v := 6) (by decide) dX1_gains_79 ?_
    refine j_irem X (by decide) dX1_gains_81 ?_
    refine j_if_ne X 89 (by decide) dX1_gains_82 (fun c_6 => ?_) (fun c_6 => ?_)
    · have qc_6 := ti_ne (n := 0) (by decide) c_6
      refine j_iconst X (v := 2) (by decide) dX1_gains_89 ?_
      refine j_iload_n X 1 rfl rfl dX1_gains_90 ?_
      refine j_imul X dX1_gains_91 ?_
      exact j_iret X hr hlocks dX1_gains_92 rfl
    · have qc_6 := ti_eq (n := 0) (by decide) c_6
      refine j_iconst X (v := 0) (by decide) dX1_gains_85 ?_
      refine j_goto X 92 (by decide) dX1_gains_86 ?_
      exact j_iret X hr hlocks dX1_gains_92 rfl
  by_cases w_7 : (M c0 0) = 6
  · refine j_tsw_in X 93 6 w_7 (by decide) (by decide) (off := 89) rfl (by decide) dX1_gains_4 ?_
    have qw_7 := ti_eq (n := 6) (by decide) w_7
    refine j_iconst X (v := 0) (by decide) dX1_gains_93 ?_
    exact j_iret X hr hlocks dX1_gains_94 rfl
  have qw_1 := ti_ne (n := 1) (by decide) w_1
  have qw_2 := ti_ne (n := 2) (by decide) w_2
  have qw_3 := ti_ne (n := 3) (by decide) w_3
  have qw_4 := ti_ne (n := 4) (by decide) w_4
  have qw_5 := ti_ne (n := 5) (by decide) w_5
  have qw_7 := ti_ne (n := 6) (by decide) w_7
  refine j_tsw_out X 95 (by omega) (by decide) dX1_gains_4 ?_
  refine j_iload_n X 1 rfl rfl dX1_gains_95 ?_
  exact j_iret X hr hlocks dX1_gains_96 rfl
def BoolOK (x : Int32) : Prop := x = 0 ∨ x = 1
def KindOK (x : Int32) : Prop := ∃ j : Nat, j ≤ 6 ∧ x = nI j
theorem nar_bool {x : Int32} (h : BoolOK x) : narrow .boolean (.int x) = .int x := by rcases h with rfl | rfl <;> rfl
theorem fit_bool {x : Int32} (h : BoolOK x) : fits .boolean (.int x) = true := by rcases h with rfl | rfl <;> rfl
set_option maxRecDepth 100000 in
set_option maxHeartbeats 4000000 in
theorem g_joined (l : Launch) (D : va_G) (y : wY) (ad : Nat → Nat) (M : Mem) (sg v w : Int32) : MI l D y ad yX4_joined (Cond.code yX4_joined cX4_joined 3 (some .int)) 0 M [.int sg, .int v, .int w] (fun _ M' => M = M') := by
  refine MI_of (by decide) (Nat.le_of_ble_eq_true rfl) ?_
  intro p e s m args below meth c X hr hlocks
  refine j_lv (lv1 := [(0, .int sg), (1, .int v), (2, .int w)]) [0, 1, 2] rfl ?_
  refine j_iload_n X 0 rfl rfl dX4_joined_0 ?_
  by_cases w_1 : sg = 37
  · refine j_lsw X 177 (by decide) (off := 176) (by rw [w_1]; decide) (by decide) dX4_joined_1 ?_
    have qw_1 := ti_eq (n := 37) (by decide) w_1
    refine j_iload_n X 2 rfl rfl dX4_joined_177 ?_
    refine j_if_ne X 185 (by decide) dX4_joined_178 (fun c_2 => ?_) (fun c_2 => ?_)
    · have qc_2 := ti_ne (n := 0) (by decide) c_2
      refine j_iload_n X 1 rfl rfl dX4_joined_185 ?_
      refine j_iload_n X 2 rfl rfl dX4_joined_186 ?_
      refine j_irem X c_2 dX4_joined_187 ?_
      exact j_iret X hr hlocks dX4_joined_188 rfl
    · have qc_2 := ti_eq (n := 0) (by decide) c_2
      refine j_iconst X (v := 0) (by decide) dX4_joined_181 ?_
      refine j_goto X 188 (by decide) dX4_joined_182 ?_
      exact j_iret X hr hlocks dX4_joined_188 rfl
  by_cases w_3 : sg = 38
  · refine j_lsw X 106 (by decide) (off := 105) (by rw [w_3]; decide) (by decide) dX4_joined_1 ?_
    have qw_3 := ti_eq (n := 38) (by decide) w_3
    refine j_iload_n X 1 rfl rfl dX4_joined_106 ?_
    refine j_if_eq X 118 (by decide) dX4_joined_107 (fun c_4 => ?_) (fun c_4 => ?_)
    · have qc_4 := ti_eq (n := 0) (by decide) c_4
      refine j_iconst X (v := 0) (by decide) dX4_joined_118 ?_
      exact j_iret X hr hlocks dX4_joined_119 rfl
    · have qc_4 := ti_ne (n := 0) (by decide) c_4
      refine j_iload_n X 2 rfl rfl dX4_joined_110 ?_
      refine j_if_eq X 118 (by decide) dX4_joined_111 (fun c_5 => ?_) (fun c_5 => ?_)
      · have qc_5 := ti_eq (n := 0) (by decide) c_5
        refine j_iconst X (v := 0) (by decide) dX4_joined_118 ?_
        exact j_iret X hr hlocks dX4_joined_119 rfl
      · have qc_5 := ti_ne (n := 0) (by decide) c_5
        refine j_iconst X (v := 1) (by decide) dX4_joined_114 ?_
        refine j_goto X 119 (by decide) dX4_joined_115 ?_
        exact j_iret X hr hlocks dX4_joined_119 rfl
  by_cases w_6 : sg = 42
  · refine j_lsw X 161 (by decide) (off := 160) (by rw [w_6]; decide) (by decide) dX4_joined_1 ?_
    have qw_6 := ti_eq (n := 42) (by decide) w_6
    refine j_iload_n X 1 rfl rfl dX4_joined_161 ?_
    refine j_iload_n X 2 rfl rfl dX4_joined_162 ?_
    refine j_imul X dX4_joined_163 ?_
    exact j_iret X hr hlocks dX4_joined_164 rfl
  by_cases w_7 : sg = 43
  · refine j_lsw X 153 (by decide) (off := 152) (by rw [w_7]; decide) (by decide) dX4_joined_1 ?_
    have qw_7 := ti_eq (n := 43) (by decide) w_7
    refine j_iload_n X 1 rfl rfl dX4_joined_153 ?_
    refine j_iload_n X 2 rfl rfl dX4_joined_154 ?_
    refine j_iadd X dX4_joined_155 ?_
    exact j_iret X hr hlocks dX4_joined_156 rfl
  by_cases w_8 : sg = 45
  · refine j_lsw X 157 (by decide) (off := 156) (by rw [w_8]; decide) (by decide) dX4_joined_1 ?_
    have qw_8 := ti_eq (n := 45) (by decide) w_8
    refine j_iload_n X 1 rfl rfl dX4_joined_157 ?_
    refine j_iload_n X 2 rfl rfl dX4_joined_158 ?_
    refine j_isub X dX4_joined_159 ?_
    exact j_iret X hr hlocks dX4_joined_160 rfl
  by_cases w_9 : sg = 47
  · refine j_lsw X 165 (by decide) (off := 164) (by rw [w_9]; decide) (by decide) dX4_joined_1 ?_
    have qw_9 := ti_eq (n := 47) (by decide) w_9
    refine j_iload_n X 2 rfl rfl dX4_joined_165 ?_
    refine j_if_ne X 173 (by decide) dX4_joined_166 (fun c_10 => ?_) (fun c_10 => ?_)
    · have qc_10 := ti_ne (n := 0) (by decide) c_10
      refine j_iload_n X 1 rfl rfl dX4_joined_173 ?_
      refine j_iload_n X 2 rfl rfl dX4_joined_174 ?_
      refine j_idiv X c_10 dX4_joined_175 ?_
      exact j_iret X hr hlocks dX4_joined_176 rfl
    · have qc_10 := ti_eq (n := 0) (by decide) c_10
      refine j_iconst X (v := 0) (by decide) dX4_joined_169 ?_
      refine j_goto X 176 (by decide) dX4_joined_170 ?_
      exact j_iret X hr hlocks dX4_joined_176 rfl
  by_cases w_11 : sg = 60
  · refine j_lsw X 120 (by decide) (off := 119) (by rw [w_11]; decide) (by decide) dX4_joined_1 ?_
    have qw_11 := ti_eq (n := 60) (by decide) w_11
    refine j_iload_n X 1 rfl rfl dX4_joined_120 ?_
    refine j_iload_n X 2 rfl rfl dX4_joined_121 ?_
    refine j_icmp_ge X 129 (by decide) dX4_joined_122 (fun c_12 => ?_) (fun c_12 => ?_)
    · have qc_12 := ti_le (a := w.toInt) (b := v.toInt) rfl rfl c_12
      refine j_iconst X (v := 0) (by decide) dX4_joined_129 ?_
      exact j_iret X hr hlocks dX4_joined_130 rfl
    · have qc_12 := ti_nle (a := w.toInt) (b := v.toInt) rfl rfl c_12
      refine j_iconst X (v := 1) (by decide) dX4_joined_125 ?_
      refine j_goto X 130 (by decide) dX4_joined_126 ?_
      exact j_iret X hr hlocks dX4_joined_130 rfl
  by_cases w_13 : sg = 61
  · refine j_lsw X 131 (by decide) (off := 130) (by rw [w_13]; decide) (by decide) dX4_joined_1 ?_
    have qw_13 := ti_eq (n := 61) (by decide) w_13
    refine j_iload_n X 1 rfl rfl dX4_joined_131 ?_
    refine j_iload_n X 2 rfl rfl dX4_joined_132 ?_
    refine j_icmp_ne X 140 (by decide) dX4_joined_133 (fun c_14 => ?_) (fun c_14 => ?_)
    · refine j_iconst X (v := 0) (by decide) dX4_joined_140 ?_
      exact j_iret X hr hlocks dX4_joined_141 rfl
    · refine j_iconst X (v := 1) (by decide) dX4_joined_136 ?_
      refine j_goto X 141 (by decide) dX4_joined_137 ?_
      exact j_iret X hr hlocks dX4_joined_141 rfl
  by_cases w_15 : sg = 62
  · refine j_lsw X 142 (by decide) (off := 141) (by rw [w_15]; decide) (by decide) dX4_joined_1 ?_
    have qw_15 := ti_eq (n := 62) (by decide) w_15
    refine j_iload_n X 1 rfl rfl dX4_joined_142 ?_
    refine j_iload_n X 2 rfl rfl dX4_joined_143 ?_
    refine j_icmp_le X 151 (by decide) dX4_joined_144 (fun c_16 => ?_) (fun c_16 => ?_)
    · have qc_16 := ti_le (a := v.toInt) (b := w.toInt) rfl rfl c_16
      refine j_iconst X (v := 0) (by decide) dX4_joined_151 ?_
      exact j_iret X hr hlocks dX4_joined_152 rfl
    · have qc_16 := ti_nle (a := v.toInt) (b := w.toInt) rfl rfl c_16
      refine j_iconst X (v := 1) (by decide) dX4_joined_147 ?_
      refine j_goto X 152 (by decide) dX4_joined_148 ?_
      exact j_iret X hr hlocks dX4_joined_152 rfl
  by_cases w_17 : sg = 124
  · refine j_lsw X 92 (by decide) (off := 91) (by rw [w_17]; decide) (by decide) dX4_joined_1 ?_
    have qw_17 := ti_eq (n := 124) (by decide) w_17
    refine j_iload_n X 1 rfl rfl dX4_joined_92 ?_
    refine j_if_ne X 100 (by decide) dX4_joined_93 (fun c_18 => ?_) (fun c_18 => ?_)
    · have qc_18 := ti_ne (n := 0) (by decide) c_18
      refine j_iconst X (v := 1) (by decide) dX4_joined_100 ?_
      refine j_goto X 105 (by decide) dX4_joined_101 ?_
      exact j_iret X hr hlocks dX4_joined_105 rfl
    · have qc_18 := ti_eq (n := 0) (by decide) c_18
      refine j_iload_n X 2 rfl rfl dX4_joined_96 ?_
      refine j_if_eq X 104 (by decide) dX4_joined_97 (fun c_19 => ?_) (fun c_19 => ?_)
      · have qc_19 := ti_eq (n := 0) (by decide) c_19
        refine j_iconst X (v := 0) (by decide) dX4_joined_104 ?_
        exact j_iret X hr hlocks dX4_joined_105 rfl
      · have qc_19 := ti_ne (n := 0) (by decide) c_19
        refine j_iconst X (v := 1) (by decide) dX4_joined_100 ?_
        refine j_goto X 105 (by decide) dX4_joined_101 ?_
        exact j_iret X hr hlocks dX4_joined_105 rfl
  have qw_1 := ti_ne (n := 37) (by decide) w_1
  have qw_3 := ti_ne (n := 38) (by decide) w_3
  have qw_6 := ti_ne (n := 42) (by decide) w_6
  have qw_7 := ti_ne (n := 43) (by decide) w_7
  have qw_8 := ti_ne (n := 45) (by decide) w_8
  have qw_9 := ti_ne (n := 47) (by decide) w_9
  have qw_11 := ti_ne (n := 60) (by decide) w_11
  have qw_13 := ti_ne (n := 61) (by decide) w_13
  have qw_15 := ti_ne (n := 62) (by decide) w_15
  have qw_17 := ti_ne (n := 124) (by decide) w_17
  refine j_lsw X 189 (by decide) (off := 188) (by simp [Op.lookupswitch.offset, qw_1, Ne.symm qw_1, qw_3, Ne.symm qw_3, qw_6, Ne.symm qw_6, qw_7, Ne.symm qw_7, qw_8, Ne.symm qw_8, qw_9, Ne.symm qw_9, qw_11, Ne.symm qw_11, qw_13, Ne.symm qw_13, qw_15, Ne.symm qw_15, qw_17, Ne.symm qw_17]) (by decide) dX4_joined_1 ?_
  refine j_iload_n X 1 rfl rfl dX4_joined_189 ?_
  refine j_if_ne X 197 (by decide) dX4_joined_190 (fun c_20 => ?_) (fun c_20 => ?_)
  · have qc_20 := ti_ne (n := 0) (by decide) c_20
    refine j_iconst X (v := 0) (by decide) dX4_joined_197 ?_
    exact j_iret X hr hlocks dX4_joined_198 rfl
  · have qc_20 := ti_eq (n := 0) (by decide) c_20
    refine j_iconst X (v := 1) (by decide) dX4_joined_193 ?_
    refine j_goto X 198 (by decide) dX4_joined_194 ?_
    exact j_iret X hr hlocks dX4_joined_198 rfl
end
section
theorem dX0_setInArea_0 : decode cX0_setInArea 0 = .ok (.iconst 0, 1) := by decide +kernel
theorem dX0_setInArea_1 : decode cX0_setInArea 1 = .ok (.istore_n 2, 1) := by decide +kernel
theorem dX0_setInArea_2 : decode cX0_setInArea 2 = .ok (.iconst 0, 1) := by decide +kernel
theorem dX0_setInArea_3 : decode cX0_setInArea 3 = .ok (.istore_n 3, 1) := by decide +kernel
theorem dX0_setInArea_4 : decode cX0_setInArea 4 = .ok (.iload_n 3, 1) := by decide +kernel
theorem dX0_setInArea_5 : decode cX0_setInArea 5 = .ok (.aload_n 0, 1) := by decide +kernel
theorem dX0_setInArea_6 : decode cX0_setInArea 6 = .ok (.getfield 29, 3) := by decide +kernel
theorem dX0_setInArea_9 : decode cX0_setInArea 9 = .ok (.if_icmp .ge 32, 3) := by decide +kernel
theorem dX0_setInArea_41 : decode cX0_setInArea 41 = .ok (.iload_n 2, 1) := by decide +kernel
theorem dX0_setInArea_42 : decode cX0_setInArea 42 = .ok (.ireturn, 1) := by decide +kernel
theorem dX0_setInArea_12 : decode cX0_setInArea 12 = .ok (.iload_n 2, 1) := by decide +kernel
theorem dX0_setInArea_13 : decode cX0_setInArea 13 = .ok (.aload_n 0, 1) := by decide +kernel
theorem dX0_setInArea_14 : decode cX0_setInArea 14 = .ok (.getfield 11, 3) := by decide +kernel
theorem dX0_setInArea_17 : decode cX0_setInArea 17 = .ok (.iload_n 3, 1) := by decide +kernel
theorem dX0_setInArea_18 : decode cX0_setInArea 18 = .ok (.aaload, 1) := by decide +kernel
theorem dX0_setInArea_19 : decode cX0_setInArea 19 = .ok (.getfield 58, 3) := by decide +kernel
theorem dX0_setInArea_22 : decode cX0_setInArea 22 = .ok (.iload_n 1, 1) := by decide +kernel
theorem dX0_setInArea_23 : decode cX0_setInArea 23 = .ok (.if_icmp .ne 9, 3) := by decide +kernel
theorem dX0_setInArea_32 : decode cX0_setInArea 32 = .ok (.iconst 0, 1) := by decide +kernel
theorem dX0_setInArea_33 : decode cX0_setInArea 33 = .ok (.ior, 1) := by decide +kernel
theorem dX0_setInArea_34 : decode cX0_setInArea 34 = .ok (.istore_n 2, 1) := by decide +kernel
theorem dX0_setInArea_35 : decode cX0_setInArea 35 = .ok (.iinc 3 1, 3) := by decide +kernel
theorem dX0_setInArea_38 : decode cX0_setInArea 38 = .ok (.goto (-34), 3) := by decide +kernel
theorem dX0_setInArea_26 : decode cX0_setInArea 26 = .ok (.iconst 1, 1) := by decide +kernel
theorem dX0_setInArea_27 : decode cX0_setInArea 27 = .ok (.iload_n 3, 1) := by decide +kernel
theorem dX0_setInArea_28 : decode cX0_setInArea 28 = .ok (.ishl, 1) := by decide +kernel
theorem dX0_setInArea_29 : decode cX0_setInArea 29 = .ok (.goto 4, 3) := by decide +kernel
theorem dX0_setEnded_0 : decode cX0_setEnded 0 = .ok (.iconst 0, 1) := by decide +kernel
theorem dX0_setEnded_1 : decode cX0_setEnded 1 = .ok (.istore_n 1, 1) := by decide +kernel
theorem dX0_setEnded_2 : decode cX0_setEnded 2 = .ok (.iconst 0, 1) := by decide +kernel
theorem dX0_setEnded_3 : decode cX0_setEnded 3 = .ok (.istore_n 2, 1) := by decide +kernel
theorem dX0_setEnded_4 : decode cX0_setEnded 4 = .ok (.iload_n 2, 1) := by decide +kernel
theorem dX0_setEnded_5 : decode cX0_setEnded 5 = .ok (.aload_n 0, 1) := by decide +kernel
theorem dX0_setEnded_6 : decode cX0_setEnded 6 = .ok (.getfield 29, 3) := by decide +kernel
theorem dX0_setEnded_9 : decode cX0_setEnded 9 = .ok (.if_icmp .ge 31, 3) := by decide +kernel
theorem dX0_setEnded_40 : decode cX0_setEnded 40 = .ok (.iload_n 1, 1) := by decide +kernel
theorem dX0_setEnded_41 : decode cX0_setEnded 41 = .ok (.ireturn, 1) := by decide +kernel
theorem dX0_setEnded_12 : decode cX0_setEnded 12 = .ok (.iload_n 1, 1) := by decide +kernel
theorem dX0_setEnded_13 : decode cX0_setEnded 13 = .ok (.aload_n 0, 1) := by decide +kernel
theorem dX0_setEnded_14 : decode cX0_setEnded 14 = .ok (.getfield 11, 3) := by decide +kernel
theorem dX0_setEnded_17 : decode cX0_setEnded 17 = .ok (.iload_n 2, 1) := by decide +kernel
theorem dX0_setEnded_18 : decode cX0_setEnded 18 = .ok (.aaload, 1) := by decide +kernel
theorem dX0_setEnded_19 : decode cX0_setEnded 19 = .ok (.getfield 61, 3) := by decide +kernel
theorem dX0_setEnded_22 : decode cX0_setEnded 22 = .ok (.ifCond .eq 9, 3) := by decide +kernel
theorem dX0_setEnded_31 : decode cX0_setEnded 31 = .ok (.iconst 0, 1) := by decide +kernel
theorem dX0_setEnded_32 : decode cX0_setEnded 32 = .ok (.ior, 1) := by decide +kernel
theorem dX0_setEnded_33 : decode cX0_setEnded 33 = .ok (.istore_n 1, 1) := by decide +kernel
theorem dX0_setEnded_34 : decode cX0_setEnded 34 = .ok (.iinc 2 1, 3) := by decide +kernel
theorem dX0_setEnded_37 : decode cX0_setEnded 37 = .ok (.goto (-33), 3) := by decide +kernel
theorem dX0_setEnded_25 : decode cX0_setEnded 25 = .ok (.iconst 1, 1) := by decide +kernel
theorem dX0_setEnded_26 : decode cX0_setEnded 26 = .ok (.iload_n 2, 1) := by decide +kernel
theorem dX0_setEnded_27 : decode cX0_setEnded 27 = .ok (.ishl, 1) := by decide +kernel
theorem dX0_setEnded_28 : decode cX0_setEnded 28 = .ok (.goto 4, 3) := by decide +kernel
theorem kd_one12 {q : Nat} (h : q < 9) : kd (14 + q) = 1 := by
  rcases (by omega : q = 0 ∨ q = 1 ∨ q = 2 ∨ q = 3 ∨ q = 4 ∨ q = 5 ∨ q = 6 ∨ q = 7 ∨ q = 8) with rfl | rfl | rfl | rfl | rfl | rfl | rfl | rfl | rfl <;> rfl
theorem kd_one49 {q : Nat} (h : q < 9) : kd (51 + q) = 1 := by
  rcases (by omega : q = 0 ∨ q = 1 ∨ q = 2 ∨ q = 3 ∨ q = 4 ∨ q = 5 ∨ q = 6 ∨ q = 7 ∨ q = 8) with rfl | rfl | rfl | rfl | rfl | rfl | rfl | rfl | rfl <;> rfl
theorem kd_one36 {q : Nat} (h : q < 9) : kd (38 + q) = 1 := by
  rcases (by omega : q = 0 ∨ q = 1 ∨ q = 2 ∨ q = 3 ∨ q = 4 ∨ q = 5 ∨ q = 6 ∨ q = 7 ∨ q = 8) with rfl | rfl | rfl | rfl | rfl | rfl | rfl | rfl | rfl <;> rfl
theorem rf_one12 {q : Nat} (h : q < 9) : rf 13 q = 14 + q := by
  rcases (by omega : q = 0 ∨ q = 1 ∨ q = 2 ∨ q = 3 ∨ q = 4 ∨ q = 5 ∨ q = 6 ∨ q = 7 ∨ q = 8) with rfl | rfl | rfl | rfl | rfl | rfl | rfl | rfl | rfl <;> rfl
theorem rf_one49 {q : Nat} (h : q < 9) : rf 50 q = 51 + q := by
  rcases (by omega : q = 0 ∨ q = 1 ∨ q = 2 ∨ q = 3 ∨ q = 4 ∨ q = 5 ∨ q = 6 ∨ q = 7 ∨ q = 8) with rfl | rfl | rfl | rfl | rfl | rfl | rfl | rfl | rfl <;> rfl
theorem rf_one36 {q : Nat} (h : q < 9) : rf 37 q = 38 + q := by
  rcases (by omega : q = 0 ∨ q = 1 ∨ q = 2 ∨ q = 3 ∨ q = 4 ∨ q = 5 ∨ q = 6 ∨ q = 7 ∨ q = 8) with rfl | rfl | rfl | rfl | rfl | rfl | rfl | rfl | rfl <;> rfl
/-- a set told by a test, of the first n -/
def setB (f : Nat → Bool) : Nat → Int32
  | 0 => 0
  | n + 1 => setB f n ||| (if f n = true then 1 <<< (nI n &&& 31) else 0)
set_option maxRecDepth 100000 in
set_option maxHeartbeats 4000000 in
theorem g_setInArea_12 (l : Launch) (D : va_G) (y : wY) (ad : Nat → Nat) (M : Mem) (n : Nat) (hn : n ≤ 9) (hm : M 12 3 = nI n) (a : Int32) : MI l D y ad yX0_setInArea (Cond.code yX0_setInArea cX0_setInArea 4 (some .int)) 0 M [.ref (ad 12), .int a] (fun r M' => setB (fun i => decide (M (14 + i) 2 = a)) n = r ∧ M = M') := by
  refine MI_of (by decide) (Nat.le_of_ble_eq_true rfl) ?_
  intro p e s m args below meth c X hr hlocks
  refine j_lv (lv1 := [(0, .ref (ad 12)), (1, .int a)]) [0, 1] rfl ?_
  refine j_iconst X (v := 0) (by decide) dX0_setInArea_0 ?_
  refine j_istore_n X [(2, .int 0), (0, .ref (ad 12)), (1, .int a)] rfl (by decide) rfl dX0_setInArea_1 ?_
  refine j_iconst X (v := 0) (by decide) dX0_setInArea_2 ?_
  refine j_istore_n X [(3, .int 0), (2, .int 0), (0, .ref (ad 12)), (1, .int a)] rfl (by decide) rfl dX0_setInArea_3 ?_
  have loop1 : ∀ (n_1 i_1 : Nat) (v2_i_1 : Int32), i_1 ≤ n → n - i_1 < n_1 → (v2_i_1 = setB (fun i => decide (M (14 + i) 2 = a)) i_1) → J p l e (rmN 0) s m args below meth c 0 0 (QI (fun r M' => setB (fun i => decide (M (14 + i) 2 = a)) n = r ∧ M = M') D y ad M s args below) D y ad (va_A (PL y ad M) s.heap.size) 4 M 4 [(3, .int (nI i_1)), (0, .ref (ad 12)), (1, .int a), (2, .int v2_i_1)] [] := by
    intro n_1
    induction n_1 with
    | zero => intro i_1  v2_i_1 h1 h2; exact absurd h2 (by omega)
    | succ n_1 ih1 =>
      intro i_1  v2_i_1 h1i_1 h2i_1  hv2_i_1
      refine j_iload_n X 0 rfl rfl dX0_setInArea_4 ?_
      refine j_aload_n X 1 rfl rfl dX0_setInArea_5 ?_
      refine j_get X (by decide) (wE_0 _ rfl) rfl awF0 3 (by decide) aw_155 rfl (v := .int (M 12 3)) rfl dX0_setInArea_6 ?_
      refine j_eqi (v := (nI n)) hm ?_
      refine j_icmp_ge X 41 (by decide) dX0_setInArea_9 (fun c_2 => ?_) (fun c_2 => ?_)
      · have c_2 := (nI_leI (by omega) (by omega)).mp (show nI (n) ≤ nI i_1 from c_2)
        refine j_iload_n X 3 rfl rfl dX0_setInArea_41 ?_
        exact j_iret X hr hlocks dX0_setInArea_42 ⟨by rw [hv2_i_1, show i_1 = n from by omega], rfl⟩
      · have c_2 : i_1 < n := by
          rcases Nat.lt_or_ge i_1 (n) with g | g
          · exact g
          · exact absurd (show nI (n) ≤ nI i_1 from nI_le g (by omega)) c_2
        refine j_iload_n X 3 rfl rfl dX0_setInArea_12 ?_
        refine j_aload_n X 1 rfl rfl dX0_setInArea_13 ?_
        refine j_get X (by decide) (wE_0 _ rfl) rfl awF0 2 (by decide) aw_60 rfl (v := .ref (ad 13)) rfl dX0_setInArea_14 ?_
        refine j_iload_n X 0 rfl rfl dX0_setInArea_17 ?_
        refine j_aald10 X (by decide) rfl (show vp_in (nI i_1) 9 from vp_in_nI (by omega) (by decide)) dX0_setInArea_18 ?_
        refine j_eqr (v := 14 + i_1) (by rw [nI_clamp (by omega)]; exact rf_one12 (by omega)) ?_
        refine j_getN X (by omega) (wE_1 _ (kd_one12 (by omega))) rfl awF1 2 (by decide) (List.mem_of_getElem? (i := 5) rfl) rfl (v := .int (M (14 + i_1) 2)) rfl dX0_setInArea_19 ?_
        refine j_iload_n X 2 rfl rfl dX0_setInArea_22 ?_
        refine j_icmp_ne X 32 (by decide) dX0_setInArea_23 (fun c_3 => ?_) (fun c_3 => ?_)
        · refine j_iconst X (v := 0) (by decide) dX0_setInArea_32 ?_
          refine j_ior X dX0_setInArea_33 ?_
          refine j_istore_n X [(2, .int (v2_i_1 ||| 0)), (3, .int (nI i_1)), (0, .ref (ad 12)), (1, .int a)] rfl (by decide) rfl dX0_setInArea_34 ?_
          refine j_iinc X (v := (nI (i_1 + 1))) 1 [(3, .int (nI (i_1 + 1))), (2, .int (v2_i_1 ||| 0)), (0, .ref (ad 12)), (1, .int a)] rfl (show nI i_1 + Int32.ofInt 1 = _ from nI_1 i_1) (by decide) rfl dX0_setInArea_35 ?_
          refine j_goto X 4 (by decide) dX0_setInArea_38 ?_
          refine j_lv (lv1 := [(3, .int (nI (i_1 + 1))), (0, .ref (ad 12)), (1, .int a), (2, .int (v2_i_1 ||| 0))]) [0, 2, 3, 1] rfl ?_
          exact ih1 (i_1 + 1) _ (by omega) (by omega)  (by rw [setB, hv2_i_1, if_neg (by simp [c_3])])
        · refine j_iconst X (v := 1) (by decide) dX0_setInArea_26 ?_
          refine j_iload_n X 0 rfl rfl dX0_setInArea_27 ?_
          refine j_ishl X dX0_setInArea_28 ?_
          refine j_goto X 33 (by decide) dX0_setInArea_29 ?_
          refine j_ior X dX0_setInArea_33 ?_
          refine j_istore_n X [(2, .int (v2_i_1 ||| (1 <<< ((nI i_1) &&& 31)))), (3, .int (nI i_1)), (0, .ref (ad 12)), (1, .int a)] rfl (by decide) rfl dX0_setInArea_34 ?_
          refine j_iinc X (v := (nI (i_1 + 1))) 1 [(3, .int (nI (i_1 + 1))), (2, .int (v2_i_1 ||| (1 <<< ((nI i_1) &&& 31)))), (0, .ref (ad 12)), (1, .int a)] rfl (show nI i_1 + Int32.ofInt 1 = _ from nI_1 i_1) (by decide) rfl dX0_setInArea_35 ?_
          refine j_goto X 4 (by decide) dX0_setInArea_38 ?_
          refine j_lv (lv1 := [(3, .int (nI (i_1 + 1))), (0, .ref (ad 12)), (1, .int a), (2, .int (v2_i_1 ||| (1 <<< ((nI i_1) &&& 31))))]) [0, 2, 3, 1] rfl ?_
          exact ih1 (i_1 + 1) _ (by omega) (by omega)  (by rw [setB, hv2_i_1, if_pos (by simp [c_3])])
  refine j_lv (lv1 := [(3, .int (nI 0)), (0, .ref (ad 12)), (1, .int a), (2, .int 0)]) [0, 2, 3, 1] rfl ?_
  exact loop1 (n + 1) 0 _ (by omega) (by omega) rfl
set_option maxRecDepth 100000 in
set_option maxHeartbeats 4000000 in
theorem g_setInArea_49 (l : Launch) (D : va_G) (y : wY) (ad : Nat → Nat) (M : Mem) (n : Nat) (hn : n ≤ 9) (hm : M 49 3 = nI n) (a : Int32) : MI l D y ad yX0_setInArea (Cond.code yX0_setInArea cX0_setInArea 4 (some .int)) 0 M [.ref (ad 49), .int a] (fun r M' => setB (fun i => decide (M (51 + i) 2 = a)) n = r ∧ M = M') := by
  refine MI_of (by decide) (Nat.le_of_ble_eq_true rfl) ?_
  intro p e s m args below meth c X hr hlocks
  refine j_lv (lv1 := [(0, .ref (ad 49)), (1, .int a)]) [0, 1] rfl ?_
  refine j_iconst X (v := 0) (by decide) dX0_setInArea_0 ?_
  refine j_istore_n X [(2, .int 0), (0, .ref (ad 49)), (1, .int a)] rfl (by decide) rfl dX0_setInArea_1 ?_
  refine j_iconst X (v := 0) (by decide) dX0_setInArea_2 ?_
  refine j_istore_n X [(3, .int 0), (2, .int 0), (0, .ref (ad 49)), (1, .int a)] rfl (by decide) rfl dX0_setInArea_3 ?_
  have loop1 : ∀ (n_1 i_1 : Nat) (v2_i_1 : Int32), i_1 ≤ n → n - i_1 < n_1 → (v2_i_1 = setB (fun i => decide (M (51 + i) 2 = a)) i_1) → J p l e (rmN 0) s m args below meth c 0 0 (QI (fun r M' => setB (fun i => decide (M (51 + i) 2 = a)) n = r ∧ M = M') D y ad M s args below) D y ad (va_A (PL y ad M) s.heap.size) 4 M 4 [(3, .int (nI i_1)), (0, .ref (ad 49)), (1, .int a), (2, .int v2_i_1)] [] := by
    intro n_1
    induction n_1 with
    | zero => intro i_1  v2_i_1 h1 h2; exact absurd h2 (by omega)
    | succ n_1 ih1 =>
      intro i_1  v2_i_1 h1i_1 h2i_1  hv2_i_1
      refine j_iload_n X 0 rfl rfl dX0_setInArea_4 ?_
      refine j_aload_n X 1 rfl rfl dX0_setInArea_5 ?_
      refine j_get X (by decide) (wE_0 _ rfl) rfl awF0 3 (by decide) aw_155 rfl (v := .int (M 49 3)) rfl dX0_setInArea_6 ?_
      refine j_eqi (v := (nI n)) hm ?_
      refine j_icmp_ge X 41 (by decide) dX0_setInArea_9 (fun c_2 => ?_) (fun c_2 => ?_)
      · have c_2 := (nI_leI (by omega) (by omega)).mp (show nI (n) ≤ nI i_1 from c_2)
        refine j_iload_n X 3 rfl rfl dX0_setInArea_41 ?_
        exact j_iret X hr hlocks dX0_setInArea_42 ⟨by rw [hv2_i_1, show i_1 = n from by omega], rfl⟩
      · have c_2 : i_1 < n := by
          rcases Nat.lt_or_ge i_1 (n) with g | g
          · exact g
          · exact absurd (show nI (n) ≤ nI i_1 from nI_le g (by omega)) c_2
        refine j_iload_n X 3 rfl rfl dX0_setInArea_12 ?_
        refine j_aload_n X 1 rfl rfl dX0_setInArea_13 ?_
        refine j_get X (by decide) (wE_0 _ rfl) rfl awF0 2 (by decide) aw_60 rfl (v := .ref (ad 50)) rfl dX0_setInArea_14 ?_
        refine j_iload_n X 0 rfl rfl dX0_setInArea_17 ?_
        refine j_aald10 X (by decide) rfl (show vp_in (nI i_1) 9 from vp_in_nI (by omega) (by decide)) dX0_setInArea_18 ?_
        refine j_eqr (v := 51 + i_1) (by rw [nI_clamp (by omega)]; exact rf_one49 (by omega)) ?_
        refine j_getN X (by omega) (wE_1 _ (kd_one49 (by omega))) rfl awF1 2 (by decide) (List.mem_of_getElem? (i := 5) rfl) rfl (v := .int (M (51 + i_1) 2)) rfl dX0_setInArea_19 ?_
        refine j_iload_n X 2 rfl rfl dX0_setInArea_22 ?_
        refine j_icmp_ne X 32 (by decide) dX0_setInArea_23 (fun c_3 => ?_) (fun c_3 => ?_)
        · refine j_iconst X (v := 0) (by decide) dX0_setInArea_32 ?_
          refine j_ior X dX0_setInArea_33 ?_
          refine j_istore_n X [(2, .int (v2_i_1 ||| 0)), (3, .int (nI i_1)), (0, .ref (ad 49)), (1, .int a)] rfl (by decide) rfl dX0_setInArea_34 ?_
          refine j_iinc X (v := (nI (i_1 + 1))) 1 [(3, .int (nI (i_1 + 1))), (2, .int (v2_i_1 ||| 0)), (0, .ref (ad 49)), (1, .int a)] rfl (show nI i_1 + Int32.ofInt 1 = _ from nI_1 i_1) (by decide) rfl dX0_setInArea_35 ?_
          refine j_goto X 4 (by decide) dX0_setInArea_38 ?_
          refine j_lv (lv1 := [(3, .int (nI (i_1 + 1))), (0, .ref (ad 49)), (1, .int a), (2, .int (v2_i_1 ||| 0))]) [0, 2, 3, 1] rfl ?_
          exact ih1 (i_1 + 1) _ (by omega) (by omega)  (by rw [setB, hv2_i_1, if_neg (by simp [c_3])])
        · refine j_iconst X (v := 1) (by decide) dX0_setInArea_26 ?_
          refine j_iload_n X 0 rfl rfl dX0_setInArea_27 ?_
          refine j_ishl X dX0_setInArea_28 ?_
          refine j_goto X 33 (by decide) dX0_setInArea_29 ?_
          refine j_ior X dX0_setInArea_33 ?_
          refine j_istore_n X [(2, .int (v2_i_1 ||| (1 <<< ((nI i_1) &&& 31)))), (3, .int (nI i_1)), (0, .ref (ad 49)), (1, .int a)] rfl (by decide) rfl dX0_setInArea_34 ?_
          refine j_iinc X (v := (nI (i_1 + 1))) 1 [(3, .int (nI (i_1 + 1))), (2, .int (v2_i_1 ||| (1 <<< ((nI i_1) &&& 31)))), (0, .ref (ad 49)), (1, .int a)] rfl (show nI i_1 + Int32.ofInt 1 = _ from nI_1 i_1) (by decide) rfl dX0_setInArea_35 ?_
          refine j_goto X 4 (by decide) dX0_setInArea_38 ?_
          refine j_lv (lv1 := [(3, .int (nI (i_1 + 1))), (0, .ref (ad 49)), (1, .int a), (2, .int (v2_i_1 ||| (1 <<< ((nI i_1) &&& 31))))]) [0, 2, 3, 1] rfl ?_
          exact ih1 (i_1 + 1) _ (by omega) (by omega)  (by rw [setB, hv2_i_1, if_pos (by simp [c_3])])
  refine j_lv (lv1 := [(3, .int (nI 0)), (0, .ref (ad 49)), (1, .int a), (2, .int 0)]) [0, 2, 3, 1] rfl ?_
  exact loop1 (n + 1) 0 _ (by omega) (by omega) rfl
set_option maxRecDepth 100000 in
set_option maxHeartbeats 4000000 in
theorem g_setEnded_12 (l : Launch) (D : va_G) (y : wY) (ad : Nat → Nat) (M : Mem) (n : Nat) (hn : n ≤ 9) (hm : M 12 3 = nI n) : MI l D y ad yX0_setEnded (Cond.code yX0_setEnded cX0_setEnded 3 (some .int)) 0 M [.ref (ad 12)] (fun r M' => setB (fun i => !decide (M (14 + i) 6 = 0)) n = r ∧ M = M') := by
  refine MI_of (by decide) (Nat.le_of_ble_eq_true rfl) ?_
  intro p e s m args below meth c X hr hlocks
  refine j_lv (lv1 := [(0, .ref (ad 12))]) [0] rfl ?_
  refine j_iconst X (v := 0) (by decide) dX0_setEnded_0 ?_
  refine j_istore_n X [(1, .int 0), (0, .ref (ad 12))] rfl (by decide) rfl dX0_setEnded_1 ?_
  refine j_iconst X (v := 0) (by decide) dX0_setEnded_2 ?_
  refine j_istore_n X [(2, .int 0), (1, .int 0), (0, .ref (ad 12))] rfl (by decide) rfl dX0_setEnded_3 ?_
  have loop1 : ∀ (n_1 i_1 : Nat) (v1_i_1 : Int32), i_1 ≤ n → n - i_1 < n_1 → (v1_i_1 = setB (fun i => !decide (M (14 + i) 6 = 0)) i_1) → J p l e (rmN 0) s m args below meth c 0 0 (QI (fun r M' => setB (fun i => !decide (M (14 + i) 6 = 0)) n = r ∧ M = M') D y ad M s args below) D y ad (va_A (PL y ad M) s.heap.size) 3 M 4 [(2, .int (nI i_1)), (0, .ref (ad 12)), (1, .int v1_i_1)] [] := by
    intro n_1
    induction n_1 with
    | zero => intro i_1  v1_i_1 h1 h2; exact absurd h2 (by omega)
    | succ n_1 ih1 =>
      intro i_1  v1_i_1 h1i_1 h2i_1  hv1_i_1
      refine j_iload_n X 0 rfl rfl dX0_setEnded_4 ?_
      refine j_aload_n X 1 rfl rfl dX0_setEnded_5 ?_
      refine j_get X (by decide) (wE_0 _ rfl) rfl awF0 3 (by decide) aw_155 rfl (v := .int (M 12 3)) rfl dX0_setEnded_6 ?_
      refine j_eqi (v := (nI n)) hm ?_
      refine j_icmp_ge X 40 (by decide) dX0_setEnded_9 (fun c_2 => ?_) (fun c_2 => ?_)
      · have c_2 := (nI_leI (by omega) (by omega)).mp (show nI (n) ≤ nI i_1 from c_2)
        refine j_iload_n X 2 rfl rfl dX0_setEnded_40 ?_
        exact j_iret X hr hlocks dX0_setEnded_41 ⟨by rw [hv1_i_1, show i_1 = n from by omega], rfl⟩
      · have c_2 : i_1 < n := by
          rcases Nat.lt_or_ge i_1 (n) with g | g
          · exact g
          · exact absurd (show nI (n) ≤ nI i_1 from nI_le g (by omega)) c_2
        refine j_iload_n X 2 rfl rfl dX0_setEnded_12 ?_
        refine j_aload_n X 1 rfl rfl dX0_setEnded_13 ?_
        refine j_get X (by decide) (wE_0 _ rfl) rfl awF0 2 (by decide) aw_60 rfl (v := .ref (ad 13)) rfl dX0_setEnded_14 ?_
        refine j_iload_n X 0 rfl rfl dX0_setEnded_17 ?_
        refine j_aald10 X (by decide) rfl (show vp_in (nI i_1) 9 from vp_in_nI (by omega) (by decide)) dX0_setEnded_18 ?_
        refine j_eqr (v := 14 + i_1) (by rw [nI_clamp (by omega)]; exact rf_one12 (by omega)) ?_
        refine j_getN X (by omega) (wE_1 _ (kd_one12 (by omega))) rfl awF1 6 (by decide) (List.mem_of_getElem? (i := 13) rfl) rfl (v := .int (M (14 + i_1) 6)) rfl dX0_setEnded_19 ?_
        refine j_if_eq X 31 (by decide) dX0_setEnded_22 (fun c_3 => ?_) (fun c_3 => ?_)
        · have qc_3 := ti_eq (n := 0) (by decide) c_3
          refine j_iconst X (v := 0) (by decide) dX0_setEnded_31 ?_
          refine j_ior X dX0_setEnded_32 ?_
          refine j_istore_n X [(1, .int (v1_i_1 ||| 0)), (2, .int (nI i_1)), (0, .ref (ad 12))] rfl (by decide) rfl dX0_setEnded_33 ?_
          refine j_iinc X (v := (nI (i_1 + 1))) 1 [(2, .int (nI (i_1 + 1))), (1, .int (v1_i_1 ||| 0)), (0, .ref (ad 12))] rfl (show nI i_1 + Int32.ofInt 1 = _ from nI_1 i_1) (by decide) rfl dX0_setEnded_34 ?_
          refine j_goto X 4 (by decide) dX0_setEnded_37 ?_
          refine j_lv (lv1 := [(2, .int (nI (i_1 + 1))), (0, .ref (ad 12)), (1, .int (v1_i_1 ||| 0))]) [0, 2, 1] rfl ?_
          exact ih1 (i_1 + 1) _ (by omega) (by omega)  (by rw [setB, hv1_i_1, if_neg (by simp [c_3])])
        · have qc_3 := ti_ne (n := 0) (by decide) c_3
          refine j_iconst X (v := 1) (by decide) dX0_setEnded_25 ?_
          refine j_iload_n X 0 rfl rfl dX0_setEnded_26 ?_
          refine j_ishl X dX0_setEnded_27 ?_
          refine j_goto X 32 (by decide) dX0_setEnded_28 ?_
          refine j_ior X dX0_setEnded_32 ?_
          refine j_istore_n X [(1, .int (v1_i_1 ||| (1 <<< ((nI i_1) &&& 31)))), (2, .int (nI i_1)), (0, .ref (ad 12))] rfl (by decide) rfl dX0_setEnded_33 ?_
          refine j_iinc X (v := (nI (i_1 + 1))) 1 [(2, .int (nI (i_1 + 1))), (1, .int (v1_i_1 ||| (1 <<< ((nI i_1) &&& 31)))), (0, .ref (ad 12))] rfl (show nI i_1 + Int32.ofInt 1 = _ from nI_1 i_1) (by decide) rfl dX0_setEnded_34 ?_
          refine j_goto X 4 (by decide) dX0_setEnded_37 ?_
          refine j_lv (lv1 := [(2, .int (nI (i_1 + 1))), (0, .ref (ad 12)), (1, .int (v1_i_1 ||| (1 <<< ((nI i_1) &&& 31))))]) [0, 2, 1] rfl ?_
          exact ih1 (i_1 + 1) _ (by omega) (by omega)  (by rw [setB, hv1_i_1, if_pos (by simp [c_3])])
  refine j_lv (lv1 := [(2, .int (nI 0)), (0, .ref (ad 12)), (1, .int 0)]) [0, 2, 1] rfl ?_
  exact loop1 (n + 1) 0 _ (by omega) (by omega) rfl
set_option maxRecDepth 100000 in
set_option maxHeartbeats 4000000 in
theorem g_setEnded_49 (l : Launch) (D : va_G) (y : wY) (ad : Nat → Nat) (M : Mem) (n : Nat) (hn : n ≤ 9) (hm : M 49 3 = nI n) : MI l D y ad yX0_setEnded (Cond.code yX0_setEnded cX0_setEnded 3 (some .int)) 0 M [.ref (ad 49)] (fun r M' => setB (fun i => !decide (M (51 + i) 6 = 0)) n = r ∧ M = M') := by
  refine MI_of (by decide) (Nat.le_of_ble_eq_true rfl) ?_
  intro p e s m args below meth c X hr hlocks
  refine j_lv (lv1 := [(0, .ref (ad 49))]) [0] rfl ?_
  refine j_iconst X (v := 0) (by decide) dX0_setEnded_0 ?_
  refine j_istore_n X [(1, .int 0), (0, .ref (ad 49))] rfl (by decide) rfl dX0_setEnded_1 ?_
  refine j_iconst X (v := 0) (by decide) dX0_setEnded_2 ?_
  refine j_istore_n X [(2, .int 0), (1, .int 0), (0, .ref (ad 49))] rfl (by decide) rfl dX0_setEnded_3 ?_
  have loop1 : ∀ (n_1 i_1 : Nat) (v1_i_1 : Int32), i_1 ≤ n → n - i_1 < n_1 → (v1_i_1 = setB (fun i => !decide (M (51 + i) 6 = 0)) i_1) → J p l e (rmN 0) s m args below meth c 0 0 (QI (fun r M' => setB (fun i => !decide (M (51 + i) 6 = 0)) n = r ∧ M = M') D y ad M s args below) D y ad (va_A (PL y ad M) s.heap.size) 3 M 4 [(2, .int (nI i_1)), (0, .ref (ad 49)), (1, .int v1_i_1)] [] := by
    intro n_1
    induction n_1 with
    | zero => intro i_1  v1_i_1 h1 h2; exact absurd h2 (by omega)
    | succ n_1 ih1 =>
      intro i_1  v1_i_1 h1i_1 h2i_1  hv1_i_1
      refine j_iload_n X 0 rfl rfl dX0_setEnded_4 ?_
      refine j_aload_n X 1 rfl rfl dX0_setEnded_5 ?_
      refine j_get X (by decide) (wE_0 _ rfl) rfl awF0 3 (by decide) aw_155 rfl (v := .int (M 49 3)) rfl dX0_setEnded_6 ?_
      refine j_eqi (v := (nI n)) hm ?_
      refine j_icmp_ge X 40 (by decide) dX0_setEnded_9 (fun c_2 => ?_) (fun c_2 => ?_)
      · have c_2 := (nI_leI (by omega) (by omega)).mp (show nI (n) ≤ nI i_1 from c_2)
        refine j_iload_n X 2 rfl rfl dX0_setEnded_40 ?_
        exact j_iret X hr hlocks dX0_setEnded_41 ⟨by rw [hv1_i_1, show i_1 = n from by omega], rfl⟩
      · have c_2 : i_1 < n := by
          rcases Nat.lt_or_ge i_1 (n) with g | g
          · exact g
          · exact absurd (show nI (n) ≤ nI i_1 from nI_le g (by omega)) c_2
        refine j_iload_n X 2 rfl rfl dX0_setEnded_12 ?_
        refine j_aload_n X 1 rfl rfl dX0_setEnded_13 ?_
        refine j_get X (by decide) (wE_0 _ rfl) rfl awF0 2 (by decide) aw_60 rfl (v := .ref (ad 50)) rfl dX0_setEnded_14 ?_
        refine j_iload_n X 0 rfl rfl dX0_setEnded_17 ?_
        refine j_aald10 X (by decide) rfl (show vp_in (nI i_1) 9 from vp_in_nI (by omega) (by decide)) dX0_setEnded_18 ?_
        refine j_eqr (v := 51 + i_1) (by rw [nI_clamp (by omega)]; exact rf_one49 (by omega)) ?_
        refine j_getN X (by omega) (wE_1 _ (kd_one49 (by omega))) rfl awF1 6 (by decide) (List.mem_of_getElem? (i := 13) rfl) rfl (v := .int (M (51 + i_1) 6)) rfl dX0_setEnded_19 ?_
        refine j_if_eq X 31 (by decide) dX0_setEnded_22 (fun c_3 => ?_) (fun c_3 => ?_)
        · have qc_3 := ti_eq (n := 0) (by decide) c_3
          refine j_iconst X (v := 0) (by decide) dX0_setEnded_31 ?_
          refine j_ior X dX0_setEnded_32 ?_
          refine j_istore_n X [(1, .int (v1_i_1 ||| 0)), (2, .int (nI i_1)), (0, .ref (ad 49))] rfl (by decide) rfl dX0_setEnded_33 ?_
          refine j_iinc X (v := (nI (i_1 + 1))) 1 [(2, .int (nI (i_1 + 1))), (1, .int (v1_i_1 ||| 0)), (0, .ref (ad 49))] rfl (show nI i_1 + Int32.ofInt 1 = _ from nI_1 i_1) (by decide) rfl dX0_setEnded_34 ?_
          refine j_goto X 4 (by decide) dX0_setEnded_37 ?_
          refine j_lv (lv1 := [(2, .int (nI (i_1 + 1))), (0, .ref (ad 49)), (1, .int (v1_i_1 ||| 0))]) [0, 2, 1] rfl ?_
          exact ih1 (i_1 + 1) _ (by omega) (by omega)  (by rw [setB, hv1_i_1, if_neg (by simp [c_3])])
        · have qc_3 := ti_ne (n := 0) (by decide) c_3
          refine j_iconst X (v := 1) (by decide) dX0_setEnded_25 ?_
          refine j_iload_n X 0 rfl rfl dX0_setEnded_26 ?_
          refine j_ishl X dX0_setEnded_27 ?_
          refine j_goto X 32 (by decide) dX0_setEnded_28 ?_
          refine j_ior X dX0_setEnded_32 ?_
          refine j_istore_n X [(1, .int (v1_i_1 ||| (1 <<< ((nI i_1) &&& 31)))), (2, .int (nI i_1)), (0, .ref (ad 49))] rfl (by decide) rfl dX0_setEnded_33 ?_
          refine j_iinc X (v := (nI (i_1 + 1))) 1 [(2, .int (nI (i_1 + 1))), (1, .int (v1_i_1 ||| (1 <<< ((nI i_1) &&& 31)))), (0, .ref (ad 49))] rfl (show nI i_1 + Int32.ofInt 1 = _ from nI_1 i_1) (by decide) rfl dX0_setEnded_34 ?_
          refine j_goto X 4 (by decide) dX0_setEnded_37 ?_
          refine j_lv (lv1 := [(2, .int (nI (i_1 + 1))), (0, .ref (ad 49)), (1, .int (v1_i_1 ||| (1 <<< ((nI i_1) &&& 31))))]) [0, 2, 1] rfl ?_
          exact ih1 (i_1 + 1) _ (by omega) (by omega)  (by rw [setB, hv1_i_1, if_pos (by simp [c_3])])
  refine j_lv (lv1 := [(2, .int (nI 0)), (0, .ref (ad 49)), (1, .int 0)]) [0, 2, 1] rfl ?_
  exact loop1 (n + 1) 0 _ (by omega) (by omega) rfl
end
section
theorem dX4_workedOut_0 : decode cX4_workedOut 0 = .ok (.iconst 0, 1) := by decide +kernel
theorem dX4_workedOut_1 : decode cX4_workedOut 1 = .ok (.istore 4, 2) := by decide +kernel
theorem dX4_workedOut_3 : decode cX4_workedOut 3 = .ok (.iload 4, 2) := by decide +kernel
theorem dX4_workedOut_5 : decode cX4_workedOut 5 = .ok (.aload_n 0, 1) := by decide +kernel
theorem dX4_workedOut_6 : decode cX4_workedOut 6 = .ok (.getfield 28, 3) := by decide +kernel
theorem dX4_workedOut_9 : decode cX4_workedOut 9 = .ok (.if_icmp .ge 120, 3) := by decide +kernel
theorem dX4_workedOut_129 : decode cX4_workedOut 129 = .ok (.aload_n 0, 1) := by decide +kernel
theorem dX4_workedOut_130 : decode cX4_workedOut 130 = .ok (.getfield 21, 3) := by decide +kernel
theorem dX4_workedOut_133 : decode cX4_workedOut 133 = .ok (.aload_n 0, 1) := by decide +kernel
theorem dX4_workedOut_134 : decode cX4_workedOut 134 = .ok (.getfield 28, 3) := by decide +kernel
theorem dX4_workedOut_137 : decode cX4_workedOut 137 = .ok (.iconst 1, 1) := by decide +kernel
theorem dX4_workedOut_138 : decode cX4_workedOut 138 = .ok (.isub, 1) := by decide +kernel
theorem dX4_workedOut_139 : decode cX4_workedOut 139 = .ok (.iaload, 1) := by decide +kernel
theorem dX4_workedOut_140 : decode cX4_workedOut 140 = .ok (.ireturn, 1) := by decide +kernel
theorem dX4_workedOut_12 : decode cX4_workedOut 12 = .ok (.aload_n 0, 1) := by decide +kernel
theorem dX4_workedOut_13 : decode cX4_workedOut 13 = .ok (.getfield 15, 3) := by decide +kernel
theorem dX4_workedOut_16 : decode cX4_workedOut 16 = .ok (.iload 4, 2) := by decide +kernel
theorem dX4_workedOut_18 : decode cX4_workedOut 18 = .ok (.iaload, 1) := by decide +kernel
theorem dX4_workedOut_19 : decode cX4_workedOut 19 = .ok (.istore 5, 2) := by decide +kernel
theorem dX4_workedOut_21 : decode cX4_workedOut 21 = .ok (.aload_n 0, 1) := by decide +kernel
theorem dX4_workedOut_22 : decode cX4_workedOut 22 = .ok (.getfield 9, 3) := by decide +kernel
theorem dX4_workedOut_25 : decode cX4_workedOut 25 = .ok (.iload 4, 2) := by decide +kernel
theorem dX4_workedOut_27 : decode cX4_workedOut 27 = .ok (.iaload, 1) := by decide +kernel
theorem dX4_workedOut_28 : decode cX4_workedOut 28 = .ok (.bipush 48, 2) := by decide +kernel
theorem dX4_workedOut_30 : decode cX4_workedOut 30 = .ok (.if_icmp .ne 15, 3) := by decide +kernel
theorem dX4_workedOut_45 : decode cX4_workedOut 45 = .ok (.aload_n 0, 1) := by decide +kernel
theorem dX4_workedOut_46 : decode cX4_workedOut 46 = .ok (.getfield 9, 3) := by decide +kernel
theorem dX4_workedOut_49 : decode cX4_workedOut 49 = .ok (.iload 4, 2) := by decide +kernel
theorem dX4_workedOut_51 : decode cX4_workedOut 51 = .ok (.iaload, 1) := by decide +kernel
theorem dX4_workedOut_52 : decode cX4_workedOut 52 = .ok (.bipush 110, 2) := by decide +kernel
theorem dX4_workedOut_54 : decode cX4_workedOut 54 = .ok (.if_icmp .ne 33, 3) := by decide +kernel
theorem dX4_workedOut_87 : decode cX4_workedOut 87 = .ok (.aload_n 0, 1) := by decide +kernel
theorem dX4_workedOut_88 : decode cX4_workedOut 88 = .ok (.getfield 21, 3) := by decide +kernel
theorem dX4_workedOut_91 : decode cX4_workedOut 91 = .ok (.iload 4, 2) := by decide +kernel
theorem dX4_workedOut_93 : decode cX4_workedOut 93 = .ok (.aload_n 0, 1) := by decide +kernel
theorem dX4_workedOut_94 : decode cX4_workedOut 94 = .ok (.getfield 9, 3) := by decide +kernel
theorem dX4_workedOut_97 : decode cX4_workedOut 97 = .ok (.iload 4, 2) := by decide +kernel
theorem dX4_workedOut_99 : decode cX4_workedOut 99 = .ok (.iaload, 1) := by decide +kernel
theorem dX4_workedOut_100 : decode cX4_workedOut 100 = .ok (.aload_n 0, 1) := by decide +kernel
theorem dX4_workedOut_101 : decode cX4_workedOut 101 = .ok (.getfield 21, 3) := by decide +kernel
theorem dX4_workedOut_104 : decode cX4_workedOut 104 = .ok (.iload 5, 2) := by decide +kernel
theorem dX4_workedOut_106 : decode cX4_workedOut 106 = .ok (.iaload, 1) := by decide +kernel
theorem dX4_workedOut_107 : decode cX4_workedOut 107 = .ok (.aload_n 0, 1) := by decide +kernel
theorem dX4_workedOut_108 : decode cX4_workedOut 108 = .ok (.getfield 21, 3) := by decide +kernel
theorem dX4_workedOut_111 : decode cX4_workedOut 111 = .ok (.aload_n 0, 1) := by decide +kernel
theorem dX4_workedOut_112 : decode cX4_workedOut 112 = .ok (.getfield 18, 3) := by decide +kernel
theorem dX4_workedOut_115 : decode cX4_workedOut 115 = .ok (.iload 4, 2) := by decide +kernel
theorem dX4_workedOut_117 : decode cX4_workedOut 117 = .ok (.iaload, 1) := by decide +kernel
theorem dX4_workedOut_118 : decode cX4_workedOut 118 = .ok (.iaload, 1) := by decide +kernel
theorem dX4_workedOut_119 : decode cX4_workedOut 119 = .ok (.invokestatic 50, 3) := by decide +kernel
theorem dX4_workedOut_122 : decode cX4_workedOut 122 = .ok (.iastore, 1) := by decide +kernel
theorem dX4_workedOut_123 : decode cX4_workedOut 123 = .ok (.iinc 4 1, 3) := by decide +kernel
theorem dX4_workedOut_126 : decode cX4_workedOut 126 = .ok (.goto (-123), 3) := by decide +kernel
theorem dX4_workedOut_57 : decode cX4_workedOut 57 = .ok (.aload_n 0, 1) := by decide +kernel
theorem dX4_workedOut_58 : decode cX4_workedOut 58 = .ok (.getfield 21, 3) := by decide +kernel
theorem dX4_workedOut_61 : decode cX4_workedOut 61 = .ok (.iload 4, 2) := by decide +kernel
theorem dX4_workedOut_63 : decode cX4_workedOut 63 = .ok (.iload 5, 2) := by decide +kernel
theorem dX4_workedOut_65 : decode cX4_workedOut 65 = .ok (.ifCond .ne 7, 3) := by decide +kernel
theorem dX4_workedOut_72 : decode cX4_workedOut 72 = .ok (.iload 5, 2) := by decide +kernel
theorem dX4_workedOut_74 : decode cX4_workedOut 74 = .ok (.iconst 1, 1) := by decide +kernel
theorem dX4_workedOut_75 : decode cX4_workedOut 75 = .ok (.if_icmp .ne 7, 3) := by decide +kernel
theorem dX4_workedOut_82 : decode cX4_workedOut 82 = .ok (.iload_n 3, 1) := by decide +kernel
theorem dX4_workedOut_83 : decode cX4_workedOut 83 = .ok (.iastore, 1) := by decide +kernel
theorem dX4_workedOut_84 : decode cX4_workedOut 84 = .ok (.goto 39, 3) := by decide +kernel
theorem dX4_workedOut_78 : decode cX4_workedOut 78 = .ok (.iload_n 2, 1) := by decide +kernel
theorem dX4_workedOut_79 : decode cX4_workedOut 79 = .ok (.goto 4, 3) := by decide +kernel
theorem dX4_workedOut_68 : decode cX4_workedOut 68 = .ok (.iload_n 1, 1) := by decide +kernel
theorem dX4_workedOut_69 : decode cX4_workedOut 69 = .ok (.goto 14, 3) := by decide +kernel
theorem dX4_workedOut_33 : decode cX4_workedOut 33 = .ok (.aload_n 0, 1) := by decide +kernel
theorem dX4_workedOut_34 : decode cX4_workedOut 34 = .ok (.getfield 21, 3) := by decide +kernel
theorem dX4_workedOut_37 : decode cX4_workedOut 37 = .ok (.iload 4, 2) := by decide +kernel
theorem dX4_workedOut_39 : decode cX4_workedOut 39 = .ok (.iload 5, 2) := by decide +kernel
theorem dX4_workedOut_41 : decode cX4_workedOut 41 = .ok (.iastore, 1) := by decide +kernel
theorem dX4_workedOut_42 : decode cX4_workedOut 42 = .ok (.goto 81, 3) := by decide +kernel
theorem dX4_gives_0 : decode cX4_gives 0 = .ok (.aload_n 0, 1) := by decide +kernel
theorem dX4_gives_1 : decode cX4_gives 1 = .ok (.getfield 28, 3) := by decide +kernel
theorem dX4_gives_4 : decode cX4_gives 4 = .ok (.ifCond .le 13, 3) := by decide +kernel
theorem dX4_gives_17 : decode cX4_gives 17 = .ok (.aload_n 0, 1) := by decide +kernel
theorem dX4_gives_18 : decode cX4_gives 18 = .ok (.getfield 24, 3) := by decide +kernel
theorem dX4_gives_21 : decode cX4_gives 21 = .ok (.ifCond .ne 8, 3) := by decide +kernel
theorem dX4_gives_29 : decode cX4_gives 29 = .ok (.bipush 9, 2) := by decide +kernel
theorem dX4_gives_31 : decode cX4_gives 31 = .ok (.iload_n 1, 1) := by decide +kernel
theorem dX4_gives_32 : decode cX4_gives 32 = .ok (.bipush 11, 2) := by decide +kernel
theorem dX4_gives_34 : decode cX4_gives 34 = .ok (.idiv, 1) := by decide +kernel
theorem dX4_gives_35 : decode cX4_gives 35 = .ok (.isub, 1) := by decide +kernel
theorem dX4_gives_36 : decode cX4_gives 36 = .ok (.istore 4, 2) := by decide +kernel
theorem dX4_gives_38 : decode cX4_gives 38 = .ok (.iconst 0, 1) := by decide +kernel
theorem dX4_gives_39 : decode cX4_gives 39 = .ok (.bipush 99, 2) := by decide +kernel
theorem dX4_gives_41 : decode cX4_gives 41 = .ok (.iload 4, 2) := by decide +kernel
theorem dX4_gives_43 : decode cX4_gives 43 = .ok (.invokestatic 41, 3) := by decide +kernel
theorem dX4_gives_46 : decode cX4_gives 46 = .ok (.invokestatic 47, 3) := by decide +kernel
theorem dX4_gives_49 : decode cX4_gives 49 = .ok (.ireturn, 1) := by decide +kernel
theorem dX4_gives_24 : decode cX4_gives 24 = .ok (.bipush 20, 2) := by decide +kernel
theorem dX4_gives_26 : decode cX4_gives 26 = .ok (.goto 10, 3) := by decide +kernel
theorem dX4_gives_7 : decode cX4_gives 7 = .ok (.aload_n 0, 1) := by decide +kernel
theorem dX4_gives_8 : decode cX4_gives 8 = .ok (.iload_n 1, 1) := by decide +kernel
theorem dX4_gives_9 : decode cX4_gives 9 = .ok (.iload_n 2, 1) := by decide +kernel
theorem dX4_gives_10 : decode cX4_gives 10 = .ok (.iload_n 3, 1) := by decide +kernel
theorem dX4_gives_11 : decode cX4_gives 11 = .ok (.invokevirtual 37, 3) := by decide +kernel
theorem dX4_gives_14 : decode cX4_gives 14 = .ok (.goto 22, 3) := by decide +kernel
def In50 (x : Int32) : Prop := ∃ k : Nat, k < 50 ∧ x = nI k
theorem in50_vp {x : Int32} (h : In50 x) : vp_in x 50 := by obtain ⟨k, hk, rfl⟩ := h; exact vp_in_nI hk (by decide)
/-- a text of z nodes, at cell t: a joined one's parts are places of the row -/
def TextOK (M : Mem) (t z : Nat) : Prop := M t 5 = nI z ∧ z ≤ 50 ∧ ∀ j, j < z → M (t + 1) j = 48 ∨ M (t + 1) j = 110 ∨ (In50 (M (t + 2) j) ∧ In50 (M (t + 3) j))
theorem textLR {M M1 : Mem} {t z i : Nat} (hT : TextOK M t z) (hs : sm (fun b _ => b == t + 4) M M1) (hi : i < z) (h1 : ¬ M1 (t + 1) i = 48) (h2 : ¬ M1 (t + 1) i = 110) : In50 (M1 (t + 2) i) ∧ In50 (M1 (t + 3) i) := by
  rw [hs (t + 1) i (by simp)] at h1 h2
  rw [hs (t + 2) i (by simp), hs (t + 3) i (by simp)]
  rcases hT.2.2 i hi with h | h | h
  · exact absurd h h1
  · exact absurd h h2
  · exact h
set_option maxRecDepth 100000 in
set_option maxHeartbeats 4000000 in
theorem g_workedOut_2 (l : Launch) (D : va_G) (y : wY) (ad : Nat → Nat) (M : Mem) (z : Nat) (hz0 : 0 < z) (hT : TextOK M 2 z) (a b0 c0 : Int32) : MI l D y ad yX4_workedOut (Cond.code yX4_workedOut cX4_workedOut 6 (some .int)) 1 M [.ref (ad 2), .int a, .int b0, .int c0] (fun _ M' => sm (fun b _ => b == 6) M M') := by
  refine MI_of (by decide) (Nat.le_of_ble_eq_true rfl) ?_
  intro p e s m args below meth c X hr hlocks
  refine j_lv (lv1 := [(0, .ref (ad 2)), (1, .int a), (2, .int b0), (3, .int c0)]) [0, 1, 2, 3] rfl ?_
  have hz50 := hT.2.1
  refine j_iconst X (v := 0) (by decide) dX4_workedOut_0 ?_
  refine j_istore X [(4, .int 0), (0, .ref (ad 2)), (1, .int a), (2, .int b0), (3, .int c0)] (by decide) rfl dX4_workedOut_1 ?_
  have loop1 : ∀ (n_1 i_1 : Nat) (M1 : Mem), i_1 ≤ z → z - i_1 < n_1 → sm (fun b _ => b == 6) M M1 → J p l e (rmN 1) s m args below meth c 0 0 (QI (fun _ M' => sm (fun b _ => b == 6) M M') D y ad M s args below) D y ad (va_A (PL y ad M) s.heap.size) 6 M1 3 [(4, .int (nI i_1)), (0, .ref (ad 2)), (1, .int a), (2, .int b0), (3, .int c0)] [] := by
    intro n_1
    induction n_1 with
    | zero => intro i_1 M1 h1 h2; exact absurd h2 (by omega)
    | succ n_1 ih1 =>
      intro i_1 M1 h1i_1 h2i_1 hs1
      refine j_iload X 0 rfl dX4_workedOut_3 ?_
      refine j_aload_n X 1 rfl rfl dX4_workedOut_5 ?_
      refine j_get X (by decide) (wE_4 _ rfl) rfl awF4 5 (by decide) aw_73 rfl (v := .int (M1 2 5)) rfl dX4_workedOut_6 ?_
      refine j_eqi (v := (nI z)) ((hs1 2 5 rfl).trans hT.1) ?_
      refine j_icmp_ge X 129 (by decide) dX4_workedOut_9 (fun c_2 => ?_) (fun c_2 => ?_)
      · have c_2 := (nI_leI (by omega) (by omega)).mp (show nI (z) ≤ nI i_1 from c_2)
        obtain ⟨z1, rfl⟩ : ∃ z1, z = z1 + 1 := ⟨z - 1, by omega⟩
        refine j_aload_n X 1 rfl rfl dX4_workedOut_129 ?_
        refine j_get X (by decide) (wE_4 _ rfl) rfl awF4 3 (by decide) aw_55 rfl (v := .ref (ad 6)) rfl dX4_workedOut_130 ?_
        refine j_aload_n X 1 rfl rfl dX4_workedOut_133 ?_
        refine j_get X (by decide) (wE_4 _ rfl) rfl awF4 5 (by decide) aw_73 rfl (v := .int (M1 2 5)) rfl dX4_workedOut_134 ?_
        refine j_eqi (v := (nI (z1 + 1))) ((hs1 2 5 rfl).trans hT.1) ?_
        refine j_iconst X (v := 1) (by decide) dX4_workedOut_137 ?_
        refine j_isub X dX4_workedOut_138 ?_
        refine j_eqi (v := nI z1) (nI_pred z1) ?_
        refine j_iald X (by decide) rfl (show vp_in (nI z1) 50 from vp_in_nI (by omega) (by decide)) dX4_workedOut_139 ?_
        refine j_eqi (v := M1 6 z1) (by rw [nI_clamp (by omega)]) ?_
        exact j_iret X hr hlocks dX4_workedOut_140 (sm_tr sm_rf (sm_w hs1 (by intro b k hb; first | rfl | exact hb | (simp only [Bool.or_eq_false_iff, Bool.and_eq_false_iff, beq_eq_false_iff_ne, ne_eq, decide_eq_false_iff_not] at hb ⊢; omega))))
      · have c_2 : i_1 < z := by
          rcases Nat.lt_or_ge i_1 (z) with g | g
          · exact g
          · exact absurd (show nI (z) ≤ nI i_1 from nI_le g (by omega)) c_2
        refine j_aload_n X 1 rfl rfl dX4_workedOut_12 ?_
        refine j_get X (by decide) (wE_4 _ rfl) rfl awF4 1 (by decide) aw_53 rfl (v := .ref (ad 4)) rfl dX4_workedOut_13 ?_
        refine j_iload X 0 rfl dX4_workedOut_16 ?_
        refine j_iald X (by decide) rfl (show vp_in (nI i_1) 50 from vp_in_nI (by omega) (by decide)) dX4_workedOut_18 ?_
        refine j_eqi (v := M1 4 i_1) (by rw [nI_clamp (by omega)]) ?_
        refine j_istore X [(5, .int (M1 4 i_1)), (4, .int (nI i_1)), (0, .ref (ad 2)), (1, .int a), (2, .int b0), (3, .int c0)] (by decide) rfl dX4_workedOut_19 ?_
        refine j_aload_n X 2 rfl rfl dX4_workedOut_21 ?_
        refine j_get X (by decide) (wE_4 _ rfl) rfl awF4 0 (by decide) aw_52 rfl (v := .ref (ad 3)) rfl dX4_workedOut_22 ?_
        refine j_iload X 1 rfl dX4_workedOut_25 ?_
        refine j_iald X (by decide) rfl (show vp_in (nI i_1) 50 from vp_in_nI (by omega) (by decide)) dX4_workedOut_27 ?_
        refine j_eqi (v := M1 3 i_1) (by rw [nI_clamp (by omega)]) ?_
        refine j_bipush X (v := 48) (by decide) dX4_workedOut_28 ?_
        refine j_icmp_ne X 45 (by decide) dX4_workedOut_30 (fun c_3 => ?_) (fun c_3 => ?_)
        · have qc_3 := ti_ne (n := 48) (by decide) c_3
          refine j_aload_n X 2 rfl rfl dX4_workedOut_45 ?_
          refine j_get X (by decide) (wE_4 _ rfl) rfl awF4 0 (by decide) aw_52 rfl (v := .ref (ad 3)) rfl dX4_workedOut_46 ?_
          refine j_iload X 1 rfl dX4_workedOut_49 ?_
          refine j_iald X (by decide) rfl (show vp_in (nI i_1) 50 from vp_in_nI (by omega) (by decide)) dX4_workedOut_51 ?_
          refine j_eqi (v := M1 3 i_1) (by rw [nI_clamp (by omega)]) ?_
          refine j_bipush X (v := 110) (by decide) dX4_workedOut_52 ?_
          refine j_icmp_ne X 87 (by decide) dX4_workedOut_54 (fun c_4 => ?_) (fun c_4 => ?_)
          · have qc_4 := ti_ne (n := 110) (by decide) c_4
            refine j_aload_n X 2 rfl rfl dX4_workedOut_87 ?_
            refine j_get X (by decide) (wE_4 _ rfl) rfl awF4 3 (by decide) aw_55 rfl (v := .ref (ad 6)) rfl dX4_workedOut_88 ?_
            refine j_iload X 1 rfl dX4_workedOut_91 ?_
            refine j_aload_n X 2 rfl rfl dX4_workedOut_93 ?_
            refine j_get X (by decide) (wE_4 _ rfl) rfl awF4 0 (by decide) aw_52 rfl (v := .ref (ad 3)) rfl dX4_workedOut_94 ?_
            refine j_iload X 1 rfl dX4_workedOut_97 ?_
            refine j_iald X (by decide) rfl (show vp_in (nI i_1) 50 from vp_in_nI (by omega) (by decide)) dX4_workedOut_99 ?_
            refine j_eqi (v := M1 3 i_1) (by rw [nI_clamp (by omega)]) ?_
            refine j_aload_n X 2 rfl rfl dX4_workedOut_100 ?_
            refine j_get X (by decide) (wE_4 _ rfl) rfl awF4 3 (by decide) aw_55 rfl (v := .ref (ad 6)) rfl dX4_workedOut_101 ?_
            refine j_iload X 0 rfl dX4_workedOut_104 ?_
            refine j_iald X (by decide) rfl (in50_vp (textLR (t := 2) hT hs1 (by omega) c_3 c_4).1) dX4_workedOut_106 ?_
            refine j_eqi (v := M1 6 ((M1 4 i_1).toNatClampNeg)) rfl ?_
            refine j_aload_n X 2 rfl rfl dX4_workedOut_107 ?_
            refine j_get X (by decide) (wE_4 _ rfl) rfl awF4 3 (by decide) aw_55 rfl (v := .ref (ad 6)) rfl dX4_workedOut_108 ?_
            refine j_aload_n X 2 rfl rfl dX4_workedOut_111 ?_
            refine j_get X (by decide) (wE_4 _ rfl) rfl awF4 2 (by decide) aw_54 rfl (v := .ref (ad 5)) rfl dX4_workedOut_112 ?_
            refine j_iload X 1 rfl dX4_workedOut_115 ?_
            refine j_iald X (by decide) rfl (show vp_in (nI i_1) 50 from vp_in_nI (by omega) (by decide)) dX4_workedOut_117 ?_
            refine j_eqi (v := M1 5 i_1) (by rw [nI_clamp (by omega)]) ?_
            refine j_iald X (by decide) rfl (in50_vp (textLR (t := 2) hT hs1 (by omega) c_3 c_4).2) dX4_workedOut_118 ?_
            refine j_eqi (v := M1 6 ((M1 5 i_1).toNatClampNeg)) rfl ?_
            refine j_callSI X (nn := 3) (As := [.int (M1 3 i_1), .int (M1 6 ((M1 4 i_1).toNatClampNeg)), .int (M1 6 ((M1 5 i_1).toNatClampNeg))]) (st := [.int (nI i_1), .ref (ad 6)]) aw_213 (g_joined l D y ad M1 (M1 3 i_1) (M1 6 ((M1 4 i_1).toNatClampNeg)) (M1 6 ((M1 5 i_1).toNatClampNeg))) aw_212 aw_214 aw_41 (by decide +kernel) ⟨by decide, by decide⟩ rfl (Nat.le_of_ble_eq_true rfl) ⟨by decide, by decide⟩ dX4_workedOut_119 ?_
            rintro r_5 M1_ rfl
            refine j_iast X (by decide) rfl (show vp_in (nI i_1) 50 from vp_in_nI (by omega) (by decide)) dX4_workedOut_122 ?_
            refine j_eqM (M1 := (up M1 6 i_1 r_5)) (by rw [nI_clamp (by omega)]) ?_
            refine j_iinc X (v := (nI (i_1 + 1))) 1 [(4, .int (nI (i_1 + 1))), (5, .int (M1 4 i_1)), (0, .ref (ad 2)), (1, .int a), (2, .int b0), (3, .int c0)] rfl (show nI i_1 + Int32.ofInt 1 = _ from nI_1 i_1) (by decide) rfl dX4_workedOut_123 ?_
            refine j_goto X 3 (by decide) dX4_workedOut_126 ?_
            refine j_lv (lv1 := [(4, .int (nI (i_1 + 1))), (0, .ref (ad 2)), (1, .int a), (2, .int b0), (3, .int c0)]) [0, 2, 3, 4, 5] rfl ?_
            exact ih1 (i_1 + 1) _ (by omega) (by omega) (sm_up hs1 (by first | rfl | (simp; done) | (simp; omega) | (simp only [Bool.and_eq_true, Bool.or_eq_true, decide_eq_true_eq, beq_iff_eq]; omega)))
          · have qc_4 := ti_eq (n := 110) (by decide) c_4
            refine j_aload_n X 2 rfl rfl dX4_workedOut_57 ?_
            refine j_get X (by decide) (wE_4 _ rfl) rfl awF4 3 (by decide) aw_55 rfl (v := .ref (ad 6)) rfl dX4_workedOut_58 ?_
            refine j_iload X 1 rfl dX4_workedOut_61 ?_
            refine j_iload X 0 rfl dX4_workedOut_63 ?_
            refine j_if_ne X 72 (by decide) dX4_workedOut_65 (fun c_6 => ?_) (fun c_6 => ?_)
            · have qc_6 := ti_ne (n := 0) (by decide) c_6
              refine j_iload X 0 rfl dX4_workedOut_72 ?_
              refine j_iconst X (v := 1) (by decide) dX4_workedOut_74 ?_
              refine j_icmp_ne X 82 (by decide) dX4_workedOut_75 (fun c_7 => ?_) (fun c_7 => ?_)
              · have qc_7 := ti_ne (n := 1) (by decide) c_7
                refine j_iload_n X 5 rfl rfl dX4_workedOut_82 ?_
                refine j_iast X (by decide) rfl (show vp_in (nI i_1) 50 from vp_in_nI (by omega) (by decide)) dX4_workedOut_83 ?_
                refine j_eqM (M1 := (up M1 6 i_1 c0)) (by rw [nI_clamp (by omega)]) ?_
                refine j_goto X 123 (by decide) dX4_workedOut_84 ?_
                refine j_iinc X (v := (nI (i_1 + 1))) 1 [(4, .int (nI (i_1 + 1))), (5, .int (M1 4 i_1)), (0, .ref (ad 2)), (1, .int a), (2, .int b0), (3, .int c0)] rfl (show nI i_1 + Int32.ofInt 1 = _ from nI_1 i_1) (by decide) rfl dX4_workedOut_123 ?_
                refine j_goto X 3 (by decide) dX4_workedOut_126 ?_
                refine j_lv (lv1 := [(4, .int (nI (i_1 + 1))), (0, .ref (ad 2)), (1, .int a), (2, .int b0), (3, .int c0)]) [0, 2, 3, 4, 5] rfl ?_
                exact ih1 (i_1 + 1) _ (by omega) (by omega) (sm_up hs1 (by first | rfl | (simp; done) | (simp; omega) | (simp only [Bool.and_eq_true, Bool.or_eq_true, decide_eq_true_eq, beq_iff_eq]; omega)))
              · have qc_7 := ti_eq (n := 1) (by decide) c_7
                refine j_iload_n X 4 rfl rfl dX4_workedOut_78 ?_
                refine j_goto X 83 (by decide) dX4_workedOut_79 ?_
                refine j_iast X (by decide) rfl (show vp_in (nI i_1) 50 from vp_in_nI (by omega) (by decide)) dX4_workedOut_83 ?_
                refine j_eqM (M1 := (up M1 6 i_1 b0)) (by rw [nI_clamp (by omega)]) ?_
                refine j_goto X 123 (by decide) dX4_workedOut_84 ?_
                refine j_iinc X (v := (nI (i_1 + 1))) 1 [(4, .int (nI (i_1 + 1))), (5, .int (M1 4 i_1)), (0, .ref (ad 2)), (1, .int a), (2, .int b0), (3, .int c0)] rfl (show nI i_1 + Int32.ofInt 1 = _ from nI_1 i_1) (by decide) rfl dX4_workedOut_123 ?_
                refine j_goto X 3 (by decide) dX4_workedOut_126 ?_
                refine j_lv (lv1 := [(4, .int (nI (i_1 + 1))), (0, .ref (ad 2)), (1, .int a), (2, .int b0), (3, .int c0)]) [0, 2, 3, 4, 5] rfl ?_
                exact ih1 (i_1 + 1) _ (by omega) (by omega) (sm_up hs1 (by first | rfl | (simp; done) | (simp; omega) | (simp only [Bool.and_eq_true, Bool.or_eq_true, decide_eq_true_eq, beq_iff_eq]; omega)))
            · have qc_6 := ti_eq (n := 0) (by decide) c_6
              refine j_iload_n X 3 rfl rfl dX4_workedOut_68 ?_
              refine j_goto X 83 (by decide) dX4_workedOut_69 ?_
              refine j_iast X (by decide) rfl (show vp_in (nI i_1) 50 from vp_in_nI (by omega) (by decide)) dX4_workedOut_83 ?_
              refine j_eqM (M1 := (up M1 6 i_1 a)) (by rw [nI_clamp (by omega)]) ?_
              refine j_goto X 123 (by decide) dX4_workedOut_84 ?_
              refine j_iinc X (v := (nI (i_1 + 1))) 1 [(4, .int (nI (i_1 + 1))), (5, .int (M1 4 i_1)), (0, .ref (ad 2)), (1, .int a), (2, .int b0), (3, .int c0)] rfl (show nI i_1 + Int32.ofInt 1 = _ from nI_1 i_1) (by decide) rfl dX4_workedOut_123 ?_
              refine j_goto X 3 (by decide) dX4_workedOut_126 ?_
              refine j_lv (lv1 := [(4, .int (nI (i_1 + 1))), (0, .ref (ad 2)), (1, .int a), (2, .int b0), (3, .int c0)]) [0, 2, 3, 4, 5] rfl ?_
              exact ih1 (i_1 + 1) _ (by omega) (by omega) (sm_up hs1 (by first | rfl | (simp; done) | (simp; omega) | (simp only [Bool.and_eq_true, Bool.or_eq_true, decide_eq_true_eq, beq_iff_eq]; omega)))
        · have qc_3 := ti_eq (n := 48) (by decide) c_3
          refine j_aload_n X 2 rfl rfl dX4_workedOut_33 ?_
          refine j_get X (by decide) (wE_4 _ rfl) rfl awF4 3 (by decide) aw_55 rfl (v := .ref (ad 6)) rfl dX4_workedOut_34 ?_
          refine j_iload X 1 rfl dX4_workedOut_37 ?_
          refine j_iload X 0 rfl dX4_workedOut_39 ?_
          refine j_iast X (by decide) rfl (show vp_in (nI i_1) 50 from vp_in_nI (by omega) (by decide)) dX4_workedOut_41 ?_
          refine j_eqM (M1 := (up M1 6 i_1 (M1 4 i_1))) (by rw [nI_clamp (by omega)]) ?_
          refine j_goto X 123 (by decide) dX4_workedOut_42 ?_
          refine j_iinc X (v := (nI (i_1 + 1))) 1 [(4, .int (nI (i_1 + 1))), (5, .int (M1 4 i_1)), (0, .ref (ad 2)), (1, .int a), (2, .int b0), (3, .int c0)] rfl (show nI i_1 + Int32.ofInt 1 = _ from nI_1 i_1) (by decide) rfl dX4_workedOut_123 ?_
          refine j_goto X 3 (by decide) dX4_workedOut_126 ?_
          refine j_lv (lv1 := [(4, .int (nI (i_1 + 1))), (0, .ref (ad 2)), (1, .int a), (2, .int b0), (3, .int c0)]) [0, 2, 3, 4, 5] rfl ?_
          exact ih1 (i_1 + 1) _ (by omega) (by omega) (sm_up hs1 (by first | rfl | (simp; done) | (simp; omega) | (simp only [Bool.and_eq_true, Bool.or_eq_true, decide_eq_true_eq, beq_iff_eq]; omega)))
  refine j_lv (lv1 := [(4, .int (nI 0)), (0, .ref (ad 2)), (1, .int a), (2, .int b0), (3, .int c0)]) [0, 1, 2, 3, 4] rfl ?_
  exact loop1 (z + 1) 0 _ (by omega) (by omega) sm_rf
set_option maxRecDepth 100000 in
set_option maxHeartbeats 4000000 in
theorem g_workedOut_7 (l : Launch) (D : va_G) (y : wY) (ad : Nat → Nat) (M : Mem) (z : Nat) (hz0 : 0 < z) (hT : TextOK M 7 z) (a b0 c0 : Int32) : MI l D y ad yX4_workedOut (Cond.code yX4_workedOut cX4_workedOut 6 (some .int)) 1 M [.ref (ad 7), .int a, .int b0, .int c0] (fun _ M' => sm (fun b _ => b == 11) M M') := by
  refine MI_of (by decide) (Nat.le_of_ble_eq_true rfl) ?_
  intro p e s m args below meth c X hr hlocks
  refine j_lv (lv1 := [(0, .ref (ad 7)), (1, .int a), (2, .int b0), (3, .int c0)]) [0, 1, 2, 3] rfl ?_
  have hz50 := hT.2.1
  refine j_iconst X (v := 0) (by decide) dX4_workedOut_0 ?_
  refine j_istore X [(4, .int 0), (0, .ref (ad 7)), (1, .int a), (2, .int b0), (3, .int c0)] (by decide) rfl dX4_workedOut_1 ?_
  have loop1 : ∀ (n_1 i_1 : Nat) (M1 : Mem), i_1 ≤ z → z - i_1 < n_1 → sm (fun b _ => b == 11) M M1 → J p l e (rmN 1) s m args below meth c 0 0 (QI (fun _ M' => sm (fun b _ => b == 11) M M') D y ad M s args below) D y ad (va_A (PL y ad M) s.heap.size) 6 M1 3 [(4, .int (nI i_1)), (0, .ref (ad 7)), (1, .int a), (2, .int b0), (3, .int c0)] [] := by
    intro n_1
    induction n_1 with
    | zero => intro i_1 M1 h1 h2; exact absurd h2 (by omega)
    | succ n_1 ih1 =>
      intro i_1 M1 h1i_1 h2i_1 hs1
      refine j_iload X 0 rfl dX4_workedOut_3 ?_
      refine j_aload_n X 1 rfl rfl dX4_workedOut_5 ?_
      refine j_get X (by decide) (wE_4 _ rfl) rfl awF4 5 (by decide) aw_73 rfl (v := .int (M1 7 5)) rfl dX4_workedOut_6 ?_
      refine j_eqi (v := (nI z)) ((hs1 7 5 rfl).trans hT.1) ?_
      refine j_icmp_ge X 129 (by decide) dX4_workedOut_9 (fun c_2 => ?_) (fun c_2 => ?_)
      · have c_2 := (nI_leI (by omega) (by omega)).mp (show nI (z) ≤ nI i_1 from c_2)
        obtain ⟨z1, rfl⟩ : ∃ z1, z = z1 + 1 := ⟨z - 1, by omega⟩
        refine j_aload_n X 1 rfl rfl dX4_workedOut_129 ?_
        refine j_get X (by decide) (wE_4 _ rfl) rfl awF4 3 (by decide) aw_55 rfl (v := .ref (ad 11)) rfl dX4_workedOut_130 ?_
        refine j_aload_n X 1 rfl rfl dX4_workedOut_133 ?_
        refine j_get X (by decide) (wE_4 _ rfl) rfl awF4 5 (by decide) aw_73 rfl (v := .int (M1 7 5)) rfl dX4_workedOut_134 ?_
        refine j_eqi (v := (nI (z1 + 1))) ((hs1 7 5 rfl).trans hT.1) ?_
        refine j_iconst X (v := 1) (by decide) dX4_workedOut_137 ?_
        refine j_isub X dX4_workedOut_138 ?_
        refine j_eqi (v := nI z1) (nI_pred z1) ?_
        refine j_iald X (by decide) rfl (show vp_in (nI z1) 50 from vp_in_nI (by omega) (by decide)) dX4_workedOut_139 ?_
        refine j_eqi (v := M1 11 z1) (by rw [nI_clamp (by omega)]) ?_
        exact j_iret X hr hlocks dX4_workedOut_140 (sm_tr sm_rf (sm_w hs1 (by intro b k hb; first | rfl | exact hb | (simp only [Bool.or_eq_false_iff, Bool.and_eq_false_iff, beq_eq_false_iff_ne, ne_eq, decide_eq_false_iff_not] at hb ⊢; omega))))
      · have c_2 : i_1 < z := by
          rcases Nat.lt_or_ge i_1 (z) with g | g
          · exact g
          · exact absurd (show nI (z) ≤ nI i_1 from nI_le g (by omega)) c_2
        refine j_aload_n X 1 rfl rfl dX4_workedOut_12 ?_
        refine j_get X (by decide) (wE_4 _ rfl) rfl awF4 1 (by decide) aw_53 rfl (v := .ref (ad 9)) rfl dX4_workedOut_13 ?_
        refine j_iload X 0 rfl dX4_workedOut_16 ?_
        refine j_iald X (by decide) rfl (show vp_in (nI i_1) 50 from vp_in_nI (by omega) (by decide)) dX4_workedOut_18 ?_
        refine j_eqi (v := M1 9 i_1) (by rw [nI_clamp (by omega)]) ?_
        refine j_istore X [(5, .int (M1 9 i_1)), (4, .int (nI i_1)), (0, .ref (ad 7)), (1, .int a), (2, .int b0), (3, .int c0)] (by decide) rfl dX4_workedOut_19 ?_
        refine j_aload_n X 2 rfl rfl dX4_workedOut_21 ?_
        refine j_get X (by decide) (wE_4 _ rfl) rfl awF4 0 (by decide) aw_52 rfl (v := .ref (ad 8)) rfl dX4_workedOut_22 ?_
        refine j_iload X 1 rfl dX4_workedOut_25 ?_
        refine j_iald X (by decide) rfl (show vp_in (nI i_1) 50 from vp_in_nI (by omega) (by decide)) dX4_workedOut_27 ?_
        refine j_eqi (v := M1 8 i_1) (by rw [nI_clamp (by omega)]) ?_
        refine j_bipush X (v := 48) (by decide) dX4_workedOut_28 ?_
        refine j_icmp_ne X 45 (by decide) dX4_workedOut_30 (fun c_3 => ?_) (fun c_3 => ?_)
        · have qc_3 := ti_ne (n := 48) (by decide) c_3
          refine j_aload_n X 2 rfl rfl dX4_workedOut_45 ?_
          refine j_get X (by decide) (wE_4 _ rfl) rfl awF4 0 (by decide) aw_52 rfl (v := .ref (ad 8)) rfl dX4_workedOut_46 ?_
          refine j_iload X 1 rfl dX4_workedOut_49 ?_
          refine j_iald X (by decide) rfl (show vp_in (nI i_1) 50 from vp_in_nI (by omega) (by decide)) dX4_workedOut_51 ?_
          refine j_eqi (v := M1 8 i_1) (by rw [nI_clamp (by omega)]) ?_
          refine j_bipush X (v := 110) (by decide) dX4_workedOut_52 ?_
          refine j_icmp_ne X 87 (by decide) dX4_workedOut_54 (fun c_4 => ?_) (fun c_4 => ?_)
          · have qc_4 := ti_ne (n := 110) (by decide) c_4
            refine j_aload_n X 2 rfl rfl dX4_workedOut_87 ?_
            refine j_get X (by decide) (wE_4 _ rfl) rfl awF4 3 (by decide) aw_55 rfl (v := .ref (ad 11)) rfl dX4_workedOut_88 ?_
            refine j_iload X 1 rfl dX4_workedOut_91 ?_
            refine j_aload_n X 2 rfl rfl dX4_workedOut_93 ?_
            refine j_get X (by decide) (wE_4 _ rfl) rfl awF4 0 (by decide) aw_52 rfl (v := .ref (ad 8)) rfl dX4_workedOut_94 ?_
            refine j_iload X 1 rfl dX4_workedOut_97 ?_
            refine j_iald X (by decide) rfl (show vp_in (nI i_1) 50 from vp_in_nI (by omega) (by decide)) dX4_workedOut_99 ?_
            refine j_eqi (v := M1 8 i_1) (by rw [nI_clamp (by omega)]) ?_
            refine j_aload_n X 2 rfl rfl dX4_workedOut_100 ?_
            refine j_get X (by decide) (wE_4 _ rfl) rfl awF4 3 (by decide) aw_55 rfl (v := .ref (ad 11)) rfl dX4_workedOut_101 ?_
            refine j_iload X 0 rfl dX4_workedOut_104 ?_
            refine j_iald X (by decide) rfl (in50_vp (textLR (t := 7) hT hs1 (by omega) c_3 c_4).1) dX4_workedOut_106 ?_
            refine j_eqi (v := M1 11 ((M1 9 i_1).toNatClampNeg)) rfl ?_
            refine j_aload_n X 2 rfl rfl dX4_workedOut_107 ?_
            refine j_get X (by decide) (wE_4 _ rfl) rfl awF4 3 (by decide) aw_55 rfl (v := .ref (ad 11)) rfl dX4_workedOut_108 ?_
            refine j_aload_n X 2 rfl rfl dX4_workedOut_111 ?_
            refine j_get X (by decide) (wE_4 _ rfl) rfl awF4 2 (by decide) aw_54 rfl (v := .ref (ad 10)) rfl dX4_workedOut_112 ?_
            refine j_iload X 1 rfl dX4_workedOut_115 ?_
            refine j_iald X (by decide) rfl (show vp_in (nI i_1) 50 from vp_in_nI (by omega) (by decide)) dX4_workedOut_117 ?_
            refine j_eqi (v := M1 10 i_1) (by rw [nI_clamp (by omega)]) ?_
            refine j_iald X (by decide) rfl (in50_vp (textLR (t := 7) hT hs1 (by omega) c_3 c_4).2) dX4_workedOut_118 ?_
            refine j_eqi (v := M1 11 ((M1 10 i_1).toNatClampNeg)) rfl ?_
            refine j_callSI X (nn := 3) (As := [.int (M1 8 i_1), .int (M1 11 ((M1 9 i_1).toNatClampNeg)), .int (M1 11 ((M1 10 i_1).toNatClampNeg))]) (st := [.int (nI i_1), .ref (ad 11)]) aw_213 (g_joined l D y ad M1 (M1 8 i_1) (M1 11 ((M1 9 i_1).toNatClampNeg)) (M1 11 ((M1 10 i_1).toNatClampNeg))) aw_212 aw_214 aw_41 (by decide +kernel) ⟨by decide, by decide⟩ rfl (Nat.le_of_ble_eq_true rfl) ⟨by decide, by decide⟩ dX4_workedOut_119 ?_
            rintro r_5 M1_ rfl
            refine j_iast X (by decide) rfl (show vp_in (nI i_1) 50 from vp_in_nI (by omega) (by decide)) dX4_workedOut_122 ?_
            refine j_eqM (M1 := (up M1 11 i_1 r_5)) (by rw [nI_clamp (by omega)]) ?_
            refine j_iinc X (v := (nI (i_1 + 1))) 1 [(4, .int (nI (i_1 + 1))), (5, .int (M1 9 i_1)), (0, .ref (ad 7)), (1, .int a), (2, .int b0), (3, .int c0)] rfl (show nI i_1 + Int32.ofInt 1 = _ from nI_1 i_1) (by decide) rfl dX4_workedOut_123 ?_
            refine j_goto X 3 (by decide) dX4_workedOut_126 ?_
            refine j_lv (lv1 := [(4, .int (nI (i_1 + 1))), (0, .ref (ad 7)), (1, .int a), (2, .int b0), (3, .int c0)]) [0, 2, 3, 4, 5] rfl ?_
            exact ih1 (i_1 + 1) _ (by omega) (by omega) (sm_up hs1 (by first | rfl | (simp; done) | (simp; omega) | (simp only [Bool.and_eq_true, Bool.or_eq_true, decide_eq_true_eq, beq_iff_eq]; omega)))
          · have qc_4 := ti_eq (n := 110) (by decide) c_4
            refine j_aload_n X 2 rfl rfl dX4_workedOut_57 ?_
            refine j_get X (by decide) (wE_4 _ rfl) rfl awF4 3 (by decide) aw_55 rfl (v := .ref (ad 11)) rfl dX4_workedOut_58 ?_
            refine j_iload X 1 rfl dX4_workedOut_61 ?_
            refine j_iload X 0 rfl dX4_workedOut_63 ?_
            refine j_if_ne X 72 (by decide) dX4_workedOut_65 (fun c_6 => ?_) (fun c_6 => ?_)
            · have qc_6 := ti_ne (n := 0) (by decide) c_6
              refine j_iload X 0 rfl dX4_workedOut_72 ?_
              refine j_iconst X (v := 1) (by decide) dX4_workedOut_74 ?_
              refine j_icmp_ne X 82 (by decide) dX4_workedOut_75 (fun c_7 => ?_) (fun c_7 => ?_)
              · have qc_7 := ti_ne (n := 1) (by decide) c_7
                refine j_iload_n X 5 rfl rfl dX4_workedOut_82 ?_
                refine j_iast X (by decide) rfl (show vp_in (nI i_1) 50 from vp_in_nI (by omega) (by decide)) dX4_workedOut_83 ?_
                refine j_eqM (M1 := (up M1 11 i_1 c0)) (by rw [nI_clamp (by omega)]) ?_
                refine j_goto X 123 (by decide) dX4_workedOut_84 ?_
                refine j_iinc X (v := (nI (i_1 + 1))) 1 [(4, .int (nI (i_1 + 1))), (5, .int (M1 9 i_1)), (0, .ref (ad 7)), (1, .int a), (2, .int b0), (3, .int c0)] rfl (show nI i_1 + Int32.ofInt 1 = _ from nI_1 i_1) (by decide) rfl dX4_workedOut_123 ?_
                refine j_goto X 3 (by decide) dX4_workedOut_126 ?_
                refine j_lv (lv1 := [(4, .int (nI (i_1 + 1))), (0, .ref (ad 7)), (1, .int a), (2, .int b0), (3, .int c0)]) [0, 2, 3, 4, 5] rfl ?_
                exact ih1 (i_1 + 1) _ (by omega) (by omega) (sm_up hs1 (by first | rfl | (simp; done) | (simp; omega) | (simp only [Bool.and_eq_true, Bool.or_eq_true, decide_eq_true_eq, beq_iff_eq]; omega)))
              · have qc_7 := ti_eq (n := 1) (by decide) c_7
                refine j_iload_n X 4 rfl rfl dX4_workedOut_78 ?_
                refine j_goto X 83 (by decide) dX4_workedOut_79 ?_
                refine j_iast X (by decide) rfl (show vp_in (nI i_1) 50 from vp_in_nI (by omega) (by decide)) dX4_workedOut_83 ?_
                refine j_eqM (M1 := (up M1 11 i_1 b0)) (by rw [nI_clamp (by omega)]) ?_
                refine j_goto X 123 (by decide) dX4_workedOut_84 ?_
                refine j_iinc X (v := (nI (i_1 + 1))) 1 [(4, .int (nI (i_1 + 1))), (5, .int (M1 9 i_1)), (0, .ref (ad 7)), (1, .int a), (2, .int b0), (3, .int c0)] rfl (show nI i_1 + Int32.ofInt 1 = _ from nI_1 i_1) (by decide) rfl dX4_workedOut_123 ?_
                refine j_goto X 3 (by decide) dX4_workedOut_126 ?_
                refine j_lv (lv1 := [(4, .int (nI (i_1 + 1))), (0, .ref (ad 7)), (1, .int a), (2, .int b0), (3, .int c0)]) [0, 2, 3, 4, 5] rfl ?_
                exact ih1 (i_1 + 1) _ (by omega) (by omega) (sm_up hs1 (by first | rfl | (simp; done) | (simp; omega) | (simp only [Bool.and_eq_true, Bool.or_eq_true, decide_eq_true_eq, beq_iff_eq]; omega)))
            · have qc_6 := ti_eq (n := 0) (by decide) c_6
              refine j_iload_n X 3 rfl rfl dX4_workedOut_68 ?_
              refine j_goto X 83 (by decide) dX4_workedOut_69 ?_
              refine j_iast X (by decide) rfl (show vp_in (nI i_1) 50 from vp_in_nI (by omega) (by decide)) dX4_workedOut_83 ?_
              refine j_eqM (M1 := (up M1 11 i_1 a)) (by rw [nI_clamp (by omega)]) ?_
              refine j_goto X 123 (by decide) dX4_workedOut_84 ?_
              refine j_iinc X (v := (nI (i_1 + 1))) 1 [(4, .int (nI (i_1 + 1))), (5, .int (M1 9 i_1)), (0, .ref (ad 7)), (1, .int a), (2, .int b0), (3, .int c0)] rfl (show nI i_1 + Int32.ofInt 1 = _ from nI_1 i_1) (by decide) rfl dX4_workedOut_123 ?_
              refine j_goto X 3 (by decide) dX4_workedOut_126 ?_
              refine j_lv (lv1 := [(4, .int (nI (i_1 + 1))), (0, .ref (ad 7)), (1, .int a), (2, .int b0), (3, .int c0)]) [0, 2, 3, 4, 5] rfl ?_
              exact ih1 (i_1 + 1) _ (by omega) (by omega) (sm_up hs1 (by first | rfl | (simp; done) | (simp; omega) | (simp only [Bool.and_eq_true, Bool.or_eq_true, decide_eq_true_eq, beq_iff_eq]; omega)))
        · have qc_3 := ti_eq (n := 48) (by decide) c_3
          refine j_aload_n X 2 rfl rfl dX4_workedOut_33 ?_
          refine j_get X (by decide) (wE_4 _ rfl) rfl awF4 3 (by decide) aw_55 rfl (v := .ref (ad 11)) rfl dX4_workedOut_34 ?_
          refine j_iload X 1 rfl dX4_workedOut_37 ?_
          refine j_iload X 0 rfl dX4_workedOut_39 ?_
          refine j_iast X (by decide) rfl (show vp_in (nI i_1) 50 from vp_in_nI (by omega) (by decide)) dX4_workedOut_41 ?_
          refine j_eqM (M1 := (up M1 11 i_1 (M1 9 i_1))) (by rw [nI_clamp (by omega)]) ?_
          refine j_goto X 123 (by decide) dX4_workedOut_42 ?_
          refine j_iinc X (v := (nI (i_1 + 1))) 1 [(4, .int (nI (i_1 + 1))), (5, .int (M1 9 i_1)), (0, .ref (ad 7)), (1, .int a), (2, .int b0), (3, .int c0)] rfl (show nI i_1 + Int32.ofInt 1 = _ from nI_1 i_1) (by decide) rfl dX4_workedOut_123 ?_
          refine j_goto X 3 (by decide) dX4_workedOut_126 ?_
          refine j_lv (lv1 := [(4, .int (nI (i_1 + 1))), (0, .ref (ad 7)), (1, .int a), (2, .int b0), (3, .int c0)]) [0, 2, 3, 4, 5] rfl ?_
          exact ih1 (i_1 + 1) _ (by omega) (by omega) (sm_up hs1 (by first | rfl | (simp; done) | (simp; omega) | (simp only [Bool.and_eq_true, Bool.or_eq_true, decide_eq_true_eq, beq_iff_eq]; omega)))
  refine j_lv (lv1 := [(4, .int (nI 0)), (0, .ref (ad 7)), (1, .int a), (2, .int b0), (3, .int c0)]) [0, 1, 2, 3, 4] rfl ?_
  exact loop1 (z + 1) 0 _ (by omega) (by omega) sm_rf
theorem TextOK_keep {M M1 : Mem} {P : Nat → Nat → Bool} {t z : Nat} (hs : sm P M M1) (h0 : ∀ k, P t k = false) (h1 : ∀ k, P (t + 1) k = false) (h2 : ∀ k, P (t + 2) k = false) (h3 : ∀ k, P (t + 3) k = false) (hT : TextOK M t z) : TextOK M1 t z := by
  refine ⟨(hs t 5 (h0 5)).trans hT.1, hT.2.1, fun j hj => ?_⟩
  rw [hs (t + 1) j (h1 j), hs (t + 2) j (h2 j), hs (t + 3) j (h3 j)]
  exact hT.2.2 j hj
set_option maxRecDepth 100000 in
set_option maxHeartbeats 4000000 in
theorem g_gives_2 (l : Launch) (D : va_G) (y : wY) (ad : Nat → Nat) (M : Mem) (z : Nat) (hT : TextOK M 2 z) (a b0 c0 : Int32) : MI l D y ad yX4_gives (Cond.code yX4_gives cX4_gives 5 (some .int)) 2 M [.ref (ad 2), .int a, .int b0, .int c0] (fun _ M' => sm (fun b _ => b == 6) M M') := by
  refine MI_of (by decide) (Nat.le_of_ble_eq_true rfl) ?_
  intro p e s m args below meth c X hr hlocks
  refine j_lv (lv1 := [(0, .ref (ad 2)), (1, .int a), (2, .int b0), (3, .int c0)]) [0, 1, 2, 3] rfl ?_
  refine j_aload_n X 0 rfl rfl dX4_gives_0 ?_
  refine j_get X (by decide) (wE_4 _ rfl) rfl awF4 5 (by decide) aw_73 rfl (v := .int (M 2 5)) rfl dX4_gives_1 ?_
  refine j_eqi (v := (nI z)) hT.1 ?_
  refine j_if_le X 17 (by decide) dX4_gives_4 (fun c_1 => ?_) (fun c_1 => ?_)
  · refine j_aload_n X 0 rfl rfl dX4_gives_17 ?_
    refine j_get X (by decide) (wE_4 _ rfl) rfl awF4 4 (by decide) aw_72 rfl (v := .int (M 2 4)) rfl dX4_gives_18 ?_
    refine j_if_ne X 29 (by decide) dX4_gives_21 (fun c_2 => ?_) (fun c_2 => ?_)
    · have qc_2 := ti_ne (n := 0) (by decide) c_2
      refine j_bipush X (v := 9) (by decide) dX4_gives_29 ?_
      refine j_iload_n X 1 rfl rfl dX4_gives_31 ?_
      refine j_bipush X (v := 11) (by decide) dX4_gives_32 ?_
      refine j_idiv X (by decide) dX4_gives_34 ?_
      refine j_isub X dX4_gives_35 ?_
      refine j_istore X [(4, .int (9 - (a / 11))), (0, .ref (ad 2)), (1, .int a), (2, .int b0), (3, .int c0)] (by decide) rfl dX4_gives_36 ?_
      refine j_iconst X (v := 0) (by decide) dX4_gives_38 ?_
      refine j_bipush X (v := 99) (by decide) dX4_gives_39 ?_
      refine j_iload X 0 rfl dX4_gives_41 ?_
      refine j_mmin X aw_201 aw_202 aw_203 aw_204 (by decide) (Nat.le_of_ble_eq_true rfl) (by decide) (by decide) dX4_gives_43 ?_
      refine j_mmax X aw_205 aw_206 aw_203 aw_207 (by decide) (Nat.le_of_ble_eq_true rfl) (by decide) (by decide) dX4_gives_46 ?_
      exact j_iret X hr hlocks dX4_gives_49 sm_rf
    · have qc_2 := ti_eq (n := 0) (by decide) c_2
      refine j_bipush X (v := 20) (by decide) dX4_gives_24 ?_
      refine j_goto X 36 (by decide) dX4_gives_26 ?_
      refine j_istore X [(4, .int 20), (0, .ref (ad 2)), (1, .int a), (2, .int b0), (3, .int c0)] (by decide) rfl dX4_gives_36 ?_
      refine j_iconst X (v := 0) (by decide) dX4_gives_38 ?_
      refine j_bipush X (v := 99) (by decide) dX4_gives_39 ?_
      refine j_iload X 0 rfl dX4_gives_41 ?_
      refine j_mmin X aw_201 aw_202 aw_203 aw_204 (by decide) (Nat.le_of_ble_eq_true rfl) (by decide) (by decide) dX4_gives_43 ?_
      refine j_eqi (v := 20) (by decide) ?_
      refine j_mmax X aw_205 aw_206 aw_203 aw_207 (by decide) (Nat.le_of_ble_eq_true rfl) (by decide) (by decide) dX4_gives_46 ?_
      refine j_eqi (v := 20) (by decide) ?_
      exact j_iret X hr hlocks dX4_gives_49 sm_rf
  · refine j_aload_n X 0 rfl rfl dX4_gives_7 ?_
    refine j_iload_n X 1 rfl rfl dX4_gives_8 ?_
    refine j_iload_n X 2 rfl rfl dX4_gives_9 ?_
    refine j_iload_n X 3 rfl rfl dX4_gives_10 ?_
    refine j_callVI X (nn := 3) (As := [.int a, .int b0, .int c0]) (st := []) (ci := 4) (by decide) (wE_4 _ rfl) rfl aw_209 aw_210 (g_workedOut_2 l D y ad M z (by rcases Nat.eq_zero_or_pos z with e0 | e0; exact absurd (by rw [e0]; decide) c_1; exact e0) hT a b0 c0) aw_208 aw_211 aw_41 (by decide +kernel) ⟨by decide, by decide⟩ rfl (Nat.le_of_ble_eq_true rfl) ⟨by decide, by decide⟩ dX4_gives_11 ?_
    rintro r_4 M_5 s_3
    refine j_goto X 36 (by decide) dX4_gives_14 ?_
    refine j_istore X [(4, .int r_4), (0, .ref (ad 2)), (1, .int a), (2, .int b0), (3, .int c0)] (by decide) rfl dX4_gives_36 ?_
    refine j_iconst X (v := 0) (by decide) dX4_gives_38 ?_
    refine j_bipush X (v := 99) (by decide) dX4_gives_39 ?_
    refine j_iload X 0 rfl dX4_gives_41 ?_
    refine j_mmin X aw_201 aw_202 aw_203 aw_204 (by decide) (Nat.le_of_ble_eq_true rfl) (by decide) (by decide) dX4_gives_43 ?_
    refine j_mmax X aw_205 aw_206 aw_203 aw_207 (by decide) (Nat.le_of_ble_eq_true rfl) (by decide) (by decide) dX4_gives_46 ?_
    exact j_iret X hr hlocks dX4_gives_49 (sm_tr sm_rf (sm_w s_3 (by intro b k hb; first | rfl | exact hb | (simp only [Bool.or_eq_false_iff, Bool.and_eq_false_iff, beq_eq_false_iff_ne, ne_eq, decide_eq_false_iff_not] at hb ⊢; omega))))
set_option maxRecDepth 100000 in
set_option maxHeartbeats 4000000 in
theorem g_gives_7 (l : Launch) (D : va_G) (y : wY) (ad : Nat → Nat) (M : Mem) (z : Nat) (hT : TextOK M 7 z) (a b0 c0 : Int32) : MI l D y ad yX4_gives (Cond.code yX4_gives cX4_gives 5 (some .int)) 2 M [.ref (ad 7), .int a, .int b0, .int c0] (fun _ M' => sm (fun b _ => b == 11) M M') := by
  refine MI_of (by decide) (Nat.le_of_ble_eq_true rfl) ?_
  intro p e s m args below meth c X hr hlocks
  refine j_lv (lv1 := [(0, .ref (ad 7)), (1, .int a), (2, .int b0), (3, .int c0)]) [0, 1, 2, 3] rfl ?_
  refine j_aload_n X 0 rfl rfl dX4_gives_0 ?_
  refine j_get X (by decide) (wE_4 _ rfl) rfl awF4 5 (by decide) aw_73 rfl (v := .int (M 7 5)) rfl dX4_gives_1 ?_
  refine j_eqi (v := (nI z)) hT.1 ?_
  refine j_if_le X 17 (by decide) dX4_gives_4 (fun c_1 => ?_) (fun c_1 => ?_)
  · refine j_aload_n X 0 rfl rfl dX4_gives_17 ?_
    refine j_get X (by decide) (wE_4 _ rfl) rfl awF4 4 (by decide) aw_72 rfl (v := .int (M 7 4)) rfl dX4_gives_18 ?_
    refine j_if_ne X 29 (by decide) dX4_gives_21 (fun c_2 => ?_) (fun c_2 => ?_)
    · have qc_2 := ti_ne (n := 0) (by decide) c_2
      refine j_bipush X (v := 9) (by decide) dX4_gives_29 ?_
      refine j_iload_n X 1 rfl rfl dX4_gives_31 ?_
      refine j_bipush X (v := 11) (by decide) dX4_gives_32 ?_
      refine j_idiv X (by decide) dX4_gives_34 ?_
      refine j_isub X dX4_gives_35 ?_
      refine j_istore X [(4, .int (9 - (a / 11))), (0, .ref (ad 7)), (1, .int a), (2, .int b0), (3, .int c0)] (by decide) rfl dX4_gives_36 ?_
      refine j_iconst X (v := 0) (by decide) dX4_gives_38 ?_
      refine j_bipush X (v := 99) (by decide) dX4_gives_39 ?_
      refine j_iload X 0 rfl dX4_gives_41 ?_
      refine j_mmin X aw_201 aw_202 aw_203 aw_204 (by decide) (Nat.le_of_ble_eq_true rfl) (by decide) (by decide) dX4_gives_43 ?_
      refine j_mmax X aw_205 aw_206 aw_203 aw_207 (by decide) (Nat.le_of_ble_eq_true rfl) (by decide) (by decide) dX4_gives_46 ?_
      exact j_iret X hr hlocks dX4_gives_49 sm_rf
    · have qc_2 := ti_eq (n := 0) (by decide) c_2
      refine j_bipush X (v := 20) (by decide) dX4_gives_24 ?_
      refine j_goto X 36 (by decide) dX4_gives_26 ?_
      refine j_istore X [(4, .int 20), (0, .ref (ad 7)), (1, .int a), (2, .int b0), (3, .int c0)] (by decide) rfl dX4_gives_36 ?_
      refine j_iconst X (v := 0) (by decide) dX4_gives_38 ?_
      refine j_bipush X (v := 99) (by decide) dX4_gives_39 ?_
      refine j_iload X 0 rfl dX4_gives_41 ?_
      refine j_mmin X aw_201 aw_202 aw_203 aw_204 (by decide) (Nat.le_of_ble_eq_true rfl) (by decide) (by decide) dX4_gives_43 ?_
      refine j_eqi (v := 20) (by decide) ?_
      refine j_mmax X aw_205 aw_206 aw_203 aw_207 (by decide) (Nat.le_of_ble_eq_true rfl) (by decide) (by decide) dX4_gives_46 ?_
      refine j_eqi (v := 20) (by decide) ?_
      exact j_iret X hr hlocks dX4_gives_49 sm_rf
  · refine j_aload_n X 0 rfl rfl dX4_gives_7 ?_
    refine j_iload_n X 1 rfl rfl dX4_gives_8 ?_
    refine j_iload_n X 2 rfl rfl dX4_gives_9 ?_
    refine j_iload_n X 3 rfl rfl dX4_gives_10 ?_
    refine j_callVI X (nn := 3) (As := [.int a, .int b0, .int c0]) (st := []) (ci := 4) (by decide) (wE_4 _ rfl) rfl aw_209 aw_210 (g_workedOut_7 l D y ad M z (by rcases Nat.eq_zero_or_pos z with e0 | e0; exact absurd (by rw [e0]; decide) c_1; exact e0) hT a b0 c0) aw_208 aw_211 aw_41 (by decide +kernel) ⟨by decide, by decide⟩ rfl (Nat.le_of_ble_eq_true rfl) ⟨by decide, by decide⟩ dX4_gives_11 ?_
    rintro r_4 M_5 s_3
    refine j_goto X 36 (by decide) dX4_gives_14 ?_
    refine j_istore X [(4, .int r_4), (0, .ref (ad 7)), (1, .int a), (2, .int b0), (3, .int c0)] (by decide) rfl dX4_gives_36 ?_
    refine j_iconst X (v := 0) (by decide) dX4_gives_38 ?_
    refine j_bipush X (v := 99) (by decide) dX4_gives_39 ?_
    refine j_iload X 0 rfl dX4_gives_41 ?_
    refine j_mmin X aw_201 aw_202 aw_203 aw_204 (by decide) (Nat.le_of_ble_eq_true rfl) (by decide) (by decide) dX4_gives_43 ?_
    refine j_mmax X aw_205 aw_206 aw_203 aw_207 (by decide) (Nat.le_of_ble_eq_true rfl) (by decide) (by decide) dX4_gives_46 ?_
    exact j_iret X hr hlocks dX4_gives_49 (sm_tr sm_rf (sm_w s_3 (by intro b k hb; first | rfl | exact hb | (simp only [Bool.or_eq_false_iff, Bool.and_eq_false_iff, beq_eq_false_iff_ne, ne_eq, decide_eq_false_iff_not] at hb ⊢; omega))))
end
section
theorem dX0_gainsOf_0 : decode cX0_gainsOf 0 = .ok (.aload_n 1, 1) := by decide +kernel
theorem dX0_gainsOf_1 : decode cX0_gainsOf 1 = .ok (.aload_n 0, 1) := by decide +kernel
theorem dX0_gainsOf_2 : decode cX0_gainsOf 2 = .ok (.getfield 21, 3) := by decide +kernel
theorem dX0_gainsOf_5 : decode cX0_gainsOf 5 = .ok (.aload_n 1, 1) := by decide +kernel
theorem dX0_gainsOf_6 : decode cX0_gainsOf 6 = .ok (.getfield 65, 3) := by decide +kernel
theorem dX0_gainsOf_9 : decode cX0_gainsOf 9 = .ok (.aload_n 1, 1) := by decide +kernel
theorem dX0_gainsOf_10 : decode cX0_gainsOf 10 = .ok (.getfield 87, 3) := by decide +kernel
theorem dX0_gainsOf_13 : decode cX0_gainsOf 13 = .ok (.aload_n 0, 1) := by decide +kernel
theorem dX0_gainsOf_14 : decode cX0_gainsOf 14 = .ok (.getfield 39, 3) := by decide +kernel
theorem dX0_gainsOf_17 : decode cX0_gainsOf 17 = .ok (.bipush 7, 2) := by decide +kernel
theorem dX0_gainsOf_19 : decode cX0_gainsOf 19 = .ok (.irem, 1) := by decide +kernel
theorem dX0_gainsOf_20 : decode cX0_gainsOf 20 = .ok (.invokevirtual 93, 3) := by decide +kernel
theorem dX0_gainsOf_23 : decode cX0_gainsOf 23 = .ok (.aload_n 0, 1) := by decide +kernel
theorem dX0_gainsOf_24 : decode cX0_gainsOf 24 = .ok (.getfield 39, 3) := by decide +kernel
theorem dX0_gainsOf_27 : decode cX0_gainsOf 27 = .ok (.invokevirtual 105, 3) := by decide +kernel
theorem dX0_gainsOf_30 : decode cX0_gainsOf 30 = .ok (.ireturn, 1) := by decide +kernel
theorem dX0_isFree_0 : decode cX0_isFree 0 = .ok (.aload_n 1, 1) := by decide +kernel
theorem dX0_isFree_1 : decode cX0_isFree 1 = .ok (.getfield 108, 3) := by decide +kernel
theorem dX0_isFree_4 : decode cX0_isFree 4 = .ok (.iconst 0, 1) := by decide +kernel
theorem dX0_isFree_5 : decode cX0_isFree 5 = .ok (.aload_n 0, 1) := by decide +kernel
theorem dX0_isFree_6 : decode cX0_isFree 6 = .ok (.getfield 29, 3) := by decide +kernel
theorem dX0_isFree_9 : decode cX0_isFree 9 = .ok (.iconst 1, 1) := by decide +kernel
theorem dX0_isFree_10 : decode cX0_isFree 10 = .ok (.isub, 1) := by decide +kernel
theorem dX0_isFree_11 : decode cX0_isFree 11 = .ok (.invokestatic 111, 3) := by decide +kernel
theorem dX0_isFree_14 : decode cX0_isFree 14 = .ok (.ifCond .eq 18, 3) := by decide +kernel
theorem dX0_isFree_17 : decode cX0_isFree 17 = .ok (.aload_n 0, 1) := by decide +kernel
theorem dX0_isFree_18 : decode cX0_isFree 18 = .ok (.getfield 11, 3) := by decide +kernel
theorem dX0_isFree_21 : decode cX0_isFree 21 = .ok (.aload_n 1, 1) := by decide +kernel
theorem dX0_isFree_22 : decode cX0_isFree 22 = .ok (.getfield 108, 3) := by decide +kernel
theorem dX0_isFree_25 : decode cX0_isFree 25 = .ok (.aaload, 1) := by decide +kernel
theorem dX0_isFree_26 : decode cX0_isFree 26 = .ok (.getfield 61, 3) := by decide +kernel
theorem dX0_isFree_29 : decode cX0_isFree 29 = .ok (.ifCond .eq 7, 3) := by decide +kernel
theorem dX0_isFree_36 : decode cX0_isFree 36 = .ok (.iconst 0, 1) := by decide +kernel
theorem dX0_isFree_37 : decode cX0_isFree 37 = .ok (.ireturn, 1) := by decide +kernel
theorem dX0_isFree_32 : decode cX0_isFree 32 = .ok (.iconst 1, 1) := by decide +kernel
theorem dX0_isFree_33 : decode cX0_isFree 33 = .ok (.goto 4, 3) := by decide +kernel
theorem dX0_grindArea_0 : decode cX0_grindArea 0 = .ok (.iconst 0, 1) := by decide +kernel
theorem dX0_grindArea_1 : decode cX0_grindArea 1 = .ok (.istore_n 1, 1) := by decide +kernel
theorem dX0_grindArea_2 : decode cX0_grindArea 2 = .ok (.iload_n 1, 1) := by decide +kernel
theorem dX0_grindArea_3 : decode cX0_grindArea 3 = .ok (.aload_n 0, 1) := by decide +kernel
theorem dX0_grindArea_4 : decode cX0_grindArea 4 = .ok (.getfield 29, 3) := by decide +kernel
theorem dX0_grindArea_7 : decode cX0_grindArea 7 = .ok (.if_icmp .ge 68, 3) := by decide +kernel
theorem dX0_grindArea_75 : decode cX0_grindArea 75 = .ok (.return_, 1) := by decide +kernel
theorem dX0_grindArea_10 : decode cX0_grindArea 10 = .ok (.aload_n 0, 1) := by decide +kernel
theorem dX0_grindArea_11 : decode cX0_grindArea 11 = .ok (.getfield 11, 3) := by decide +kernel
theorem dX0_grindArea_14 : decode cX0_grindArea 14 = .ok (.iload_n 1, 1) := by decide +kernel
theorem dX0_grindArea_15 : decode cX0_grindArea 15 = .ok (.aaload, 1) := by decide +kernel
theorem dX0_grindArea_16 : decode cX0_grindArea 16 = .ok (.astore_n 2, 1) := by decide +kernel
theorem dX0_grindArea_17 : decode cX0_grindArea 17 = .ok (.aload_n 2, 1) := by decide +kernel
theorem dX0_grindArea_18 : decode cX0_grindArea 18 = .ok (.getfield 58, 3) := by decide +kernel
theorem dX0_grindArea_21 : decode cX0_grindArea 21 = .ok (.aload_n 0, 1) := by decide +kernel
theorem dX0_grindArea_22 : decode cX0_grindArea 22 = .ok (.getfield 36, 3) := by decide +kernel
theorem dX0_grindArea_25 : decode cX0_grindArea 25 = .ok (.if_icmp .ne 44, 3) := by decide +kernel
theorem dX0_grindArea_69 : decode cX0_grindArea 69 = .ok (.iinc 1 1, 3) := by decide +kernel
theorem dX0_grindArea_72 : decode cX0_grindArea 72 = .ok (.goto (-70), 3) := by decide +kernel
theorem dX0_grindArea_28 : decode cX0_grindArea 28 = .ok (.aload_n 2, 1) := by decide +kernel
theorem dX0_grindArea_29 : decode cX0_grindArea 29 = .ok (.getfield 61, 3) := by decide +kernel
theorem dX0_grindArea_32 : decode cX0_grindArea 32 = .ok (.ifCond .ne 37, 3) := by decide +kernel
theorem dX0_grindArea_35 : decode cX0_grindArea 35 = .ok (.aload_n 2, 1) := by decide +kernel
theorem dX0_grindArea_36 : decode cX0_grindArea 36 = .ok (.bipush 99, 2) := by decide +kernel
theorem dX0_grindArea_38 : decode cX0_grindArea 38 = .ok (.aload_n 2, 1) := by decide +kernel
theorem dX0_grindArea_39 : decode cX0_grindArea 39 = .ok (.getfield 65, 3) := by decide +kernel
theorem dX0_grindArea_42 : decode cX0_grindArea 42 = .ok (.aload_n 0, 1) := by decide +kernel
theorem dX0_grindArea_43 : decode cX0_grindArea 43 = .ok (.aload_n 2, 1) := by decide +kernel
theorem dX0_grindArea_44 : decode cX0_grindArea 44 = .ok (.invokevirtual 68, 3) := by decide +kernel
theorem dX0_grindArea_47 : decode cX0_grindArea 47 = .ok (.iadd, 1) := by decide +kernel
theorem dX0_grindArea_48 : decode cX0_grindArea 48 = .ok (.invokestatic 72, 3) := by decide +kernel
theorem dX0_grindArea_51 : decode cX0_grindArea 51 = .ok (.putfield 65, 3) := by decide +kernel
theorem dX0_grindArea_54 : decode cX0_grindArea 54 = .ok (.aload_n 0, 1) := by decide +kernel
theorem dX0_grindArea_55 : decode cX0_grindArea 55 = .ok (.ldc 78, 2) := by decide +kernel
theorem dX0_grindArea_57 : decode cX0_grindArea 57 = .ok (.aload_n 0, 1) := by decide +kernel
theorem dX0_grindArea_58 : decode cX0_grindArea 58 = .ok (.getfield 45, 3) := by decide +kernel
theorem dX0_grindArea_61 : decode cX0_grindArea 61 = .ok (.iconst 3, 1) := by decide +kernel
theorem dX0_grindArea_62 : decode cX0_grindArea 62 = .ok (.iadd, 1) := by decide +kernel
theorem dX0_grindArea_63 : decode cX0_grindArea 63 = .ok (.invokestatic 72, 3) := by decide +kernel
theorem dX0_grindArea_66 : decode cX0_grindArea 66 = .ok (.putfield 45, 3) := by decide +kernel
theorem dX0_endOrDull_0 : decode cX0_endOrDull 0 = .ok (.iconst 0, 1) := by decide +kernel
theorem dX0_endOrDull_1 : decode cX0_endOrDull 1 = .ok (.istore_n 2, 1) := by decide +kernel
theorem dX0_endOrDull_2 : decode cX0_endOrDull 2 = .ok (.iload_n 2, 1) := by decide +kernel
theorem dX0_endOrDull_3 : decode cX0_endOrDull 3 = .ok (.aload_n 0, 1) := by decide +kernel
theorem dX0_endOrDull_4 : decode cX0_endOrDull 4 = .ok (.getfield 29, 3) := by decide +kernel
theorem dX0_endOrDull_7 : decode cX0_endOrDull 7 = .ok (.if_icmp .ge 123, 3) := by decide +kernel
theorem dX0_endOrDull_130 : decode cX0_endOrDull 130 = .ok (.return_, 1) := by decide +kernel
theorem dX0_endOrDull_10 : decode cX0_endOrDull 10 = .ok (.aload_n 0, 1) := by decide +kernel
theorem dX0_endOrDull_11 : decode cX0_endOrDull 11 = .ok (.getfield 11, 3) := by decide +kernel
theorem dX0_endOrDull_14 : decode cX0_endOrDull 14 = .ok (.iload_n 2, 1) := by decide +kernel
theorem dX0_endOrDull_15 : decode cX0_endOrDull 15 = .ok (.aaload, 1) := by decide +kernel
theorem dX0_endOrDull_16 : decode cX0_endOrDull 16 = .ok (.astore_n 3, 1) := by decide +kernel
theorem dX0_endOrDull_17 : decode cX0_endOrDull 17 = .ok (.aload_n 3, 1) := by decide +kernel
theorem dX0_endOrDull_18 : decode cX0_endOrDull 18 = .ok (.getfield 61, 3) := by decide +kernel
theorem dX0_endOrDull_21 : decode cX0_endOrDull 21 = .ok (.ifCond .eq 6, 3) := by decide +kernel
theorem dX0_endOrDull_27 : decode cX0_endOrDull 27 = .ok (.aload_n 3, 1) := by decide +kernel
theorem dX0_endOrDull_28 : decode cX0_endOrDull 28 = .ok (.getfield 65, 3) := by decide +kernel
theorem dX0_endOrDull_31 : decode cX0_endOrDull 31 = .ok (.aload_n 3, 1) := by decide +kernel
theorem dX0_endOrDull_32 : decode cX0_endOrDull 32 = .ok (.invokevirtual 79, 3) := by decide +kernel
theorem dX0_endOrDull_35 : decode cX0_endOrDull 35 = .ok (.if_icmp .lt 19, 3) := by decide +kernel
theorem dX0_endOrDull_54 : decode cX0_endOrDull 54 = .ok (.iload_n 1, 1) := by decide +kernel
theorem dX0_endOrDull_55 : decode cX0_endOrDull 55 = .ok (.ifCond .eq 36, 3) := by decide +kernel
theorem dX0_endOrDull_91 : decode cX0_endOrDull 91 = .ok (.aload_n 3, 1) := by decide +kernel
theorem dX0_endOrDull_92 : decode cX0_endOrDull 92 = .ok (.iconst 0, 1) := by decide +kernel
theorem dX0_endOrDull_93 : decode cX0_endOrDull 93 = .ok (.aload_n 3, 1) := by decide +kernel
theorem dX0_endOrDull_94 : decode cX0_endOrDull 94 = .ok (.getfield 65, 3) := by decide +kernel
theorem dX0_endOrDull_97 : decode cX0_endOrDull 97 = .ok (.aload_n 3, 1) := by decide +kernel
theorem dX0_endOrDull_98 : decode cX0_endOrDull 98 = .ok (.invokevirtual 99, 3) := by decide +kernel
theorem dX0_endOrDull_101 : decode cX0_endOrDull 101 = .ok (.isub, 1) := by decide +kernel
theorem dX0_endOrDull_102 : decode cX0_endOrDull 102 = .ok (.invokestatic 102, 3) := by decide +kernel
theorem dX0_endOrDull_105 : decode cX0_endOrDull 105 = .ok (.putfield 65, 3) := by decide +kernel
theorem dX0_endOrDull_108 : decode cX0_endOrDull 108 = .ok (.aload_n 3, 1) := by decide +kernel
theorem dX0_endOrDull_109 : decode cX0_endOrDull 109 = .ok (.sipush 999, 3) := by decide +kernel
theorem dX0_endOrDull_112 : decode cX0_endOrDull 112 = .ok (.aload_n 3, 1) := by decide +kernel
theorem dX0_endOrDull_113 : decode cX0_endOrDull 113 = .ok (.getfield 87, 3) := by decide +kernel
theorem dX0_endOrDull_116 : decode cX0_endOrDull 116 = .ok (.iconst 1, 1) := by decide +kernel
theorem dX0_endOrDull_117 : decode cX0_endOrDull 117 = .ok (.iadd, 1) := by decide +kernel
theorem dX0_endOrDull_118 : decode cX0_endOrDull 118 = .ok (.invokestatic 72, 3) := by decide +kernel
theorem dX0_endOrDull_121 : decode cX0_endOrDull 121 = .ok (.putfield 87, 3) := by decide +kernel
theorem dX0_endOrDull_124 : decode cX0_endOrDull 124 = .ok (.iinc 2 1, 3) := by decide +kernel
theorem dX0_endOrDull_127 : decode cX0_endOrDull 127 = .ok (.goto (-125), 3) := by decide +kernel
theorem dX0_endOrDull_58 : decode cX0_endOrDull 58 = .ok (.aload_n 0, 1) := by decide +kernel
theorem dX0_endOrDull_59 : decode cX0_endOrDull 59 = .ok (.ldc 78, 2) := by decide +kernel
theorem dX0_endOrDull_61 : decode cX0_endOrDull 61 = .ok (.aload_n 0, 1) := by decide +kernel
theorem dX0_endOrDull_62 : decode cX0_endOrDull 62 = .ok (.getfield 42, 3) := by decide +kernel
theorem dX0_endOrDull_65 : decode cX0_endOrDull 65 = .ok (.aload_n 0, 1) := by decide +kernel
theorem dX0_endOrDull_66 : decode cX0_endOrDull 66 = .ok (.getfield 25, 3) := by decide +kernel
theorem dX0_endOrDull_69 : decode cX0_endOrDull 69 = .ok (.aload_n 3, 1) := by decide +kernel
theorem dX0_endOrDull_70 : decode cX0_endOrDull 70 = .ok (.getfield 65, 3) := by decide +kernel
theorem dX0_endOrDull_73 : decode cX0_endOrDull 73 = .ok (.aload_n 3, 1) := by decide +kernel
theorem dX0_endOrDull_74 : decode cX0_endOrDull 74 = .ok (.getfield 87, 3) := by decide +kernel
theorem dX0_endOrDull_77 : decode cX0_endOrDull 77 = .ok (.aload_n 3, 1) := by decide +kernel
theorem dX0_endOrDull_78 : decode cX0_endOrDull 78 = .ok (.getfield 90, 3) := by decide +kernel
theorem dX0_endOrDull_81 : decode cX0_endOrDull 81 = .ok (.invokevirtual 93, 3) := by decide +kernel
theorem dX0_endOrDull_84 : decode cX0_endOrDull 84 = .ok (.iadd, 1) := by decide +kernel
theorem dX0_endOrDull_85 : decode cX0_endOrDull 85 = .ok (.invokestatic 72, 3) := by decide +kernel
theorem dX0_endOrDull_88 : decode cX0_endOrDull 88 = .ok (.putfield 42, 3) := by decide +kernel
theorem dX0_endOrDull_38 : decode cX0_endOrDull 38 = .ok (.aload_n 0, 1) := by decide +kernel
theorem dX0_endOrDull_39 : decode cX0_endOrDull 39 = .ok (.aload_n 3, 1) := by decide +kernel
theorem dX0_endOrDull_40 : decode cX0_endOrDull 40 = .ok (.invokevirtual 83, 3) := by decide +kernel
theorem dX0_endOrDull_43 : decode cX0_endOrDull 43 = .ok (.ifCond .eq 11, 3) := by decide +kernel
theorem dX0_endOrDull_46 : decode cX0_endOrDull 46 = .ok (.aload_n 3, 1) := by decide +kernel
theorem dX0_endOrDull_47 : decode cX0_endOrDull 47 = .ok (.iconst 1, 1) := by decide +kernel
theorem dX0_endOrDull_48 : decode cX0_endOrDull 48 = .ok (.putfield 61, 3) := by decide +kernel
theorem dX0_endOrDull_51 : decode cX0_endOrDull 51 = .ok (.goto 73, 3) := by decide +kernel
theorem dX0_endOrDull_24 : decode cX0_endOrDull 24 = .ok (.goto 100, 3) := by decide +kernel
theorem dX0_restDay_0 : decode cX0_restDay 0 = .ok (.aload_n 0, 1) := by decide +kernel
theorem dX0_restDay_1 : decode cX0_restDay 1 = .ok (.iload_n 1, 1) := by decide +kernel
theorem dX0_restDay_2 : decode cX0_restDay 2 = .ok (.invokevirtual 55, 3) := by decide +kernel
theorem dX0_restDay_5 : decode cX0_restDay 5 = .ok (.aload_n 0, 1) := by decide +kernel
theorem dX0_restDay_6 : decode cX0_restDay 6 = .ok (.aload_n 0, 1) := by decide +kernel
theorem dX0_restDay_7 : decode cX0_restDay 7 = .ok (.getfield 36, 3) := by decide +kernel
theorem dX0_restDay_10 : decode cX0_restDay 10 = .ok (.aload_n 0, 1) := by decide +kernel
theorem dX0_restDay_11 : decode cX0_restDay 11 = .ok (.getfield 17, 3) := by decide +kernel
theorem dX0_restDay_14 : decode cX0_restDay 14 = .ok (.iadd, 1) := by decide +kernel
theorem dX0_restDay_15 : decode cX0_restDay 15 = .ok (.bipush 10, 2) := by decide +kernel
theorem dX0_restDay_17 : decode cX0_restDay 17 = .ok (.irem, 1) := by decide +kernel
theorem dX0_restDay_18 : decode cX0_restDay 18 = .ok (.putfield 36, 3) := by decide +kernel
theorem dX0_restDay_21 : decode cX0_restDay 21 = .ok (.aload_n 0, 1) := by decide +kernel
theorem dX0_restDay_22 : decode cX0_restDay 22 = .ok (.dup, 1) := by decide +kernel
theorem dX0_restDay_23 : decode cX0_restDay 23 = .ok (.getfield 39, 3) := by decide +kernel
theorem dX0_restDay_26 : decode cX0_restDay 26 = .ok (.iconst 1, 1) := by decide +kernel
theorem dX0_restDay_27 : decode cX0_restDay 27 = .ok (.iadd, 1) := by decide +kernel
theorem dX0_restDay_28 : decode cX0_restDay 28 = .ok (.putfield 39, 3) := by decide +kernel
theorem dX0_restDay_31 : decode cX0_restDay 31 = .ok (.return_, 1) := by decide +kernel
theorem dX0_passDay_0 : decode cX0_passDay 0 = .ok (.aload_n 0, 1) := by decide +kernel
theorem dX0_passDay_1 : decode cX0_passDay 1 = .ok (.invokevirtual 48, 3) := by decide +kernel
theorem dX0_passDay_4 : decode cX0_passDay 4 = .ok (.aload_n 0, 1) := by decide +kernel
theorem dX0_passDay_5 : decode cX0_passDay 5 = .ok (.iload_n 1, 1) := by decide +kernel
theorem dX0_passDay_6 : decode cX0_passDay 6 = .ok (.invokevirtual 51, 3) := by decide +kernel
theorem dX0_passDay_9 : decode cX0_passDay 9 = .ok (.return_, 1) := by decide +kernel
/-- of the ones from cell b on: ENDED stays, or becomes 1 -/
def sme (b : Nat) (M M1 : Mem) : Prop := ∀ q : Nat, q < 9 → M1 (b + q) 6 = M (b + q) 6 ∨ M1 (b + q) 6 = 1
theorem sme_rf {b : Nat} {M : Mem} : sme b M M := fun _ _ => Or.inl rfl
theorem sme_keep {b : Nat} {M M1 M2 : Mem} {P : Nat → Nat → Bool} (h : sme b M M1) (hs : sm P M1 M2) (hP : ∀ q, q < 9 → P (b + q) 6 = false) : sme b M M2 := fun q hq => by rw [hs (b + q) 6 (hP q hq)]; exact h q hq
theorem sme_tr {b : Nat} {M M1 M2 : Mem} (h : sme b M M1) (h2 : sme b M1 M2) : sme b M M2 := fun q hq => by
  rcases h2 q hq with e | e
  · rw [e]; exact h q hq
  · exact Or.inr e
theorem sme_set {b i : Nat} {M M1 : Mem} (h : sme b M M1) : sme b M (up M1 (b + i) 6 1) := fun q hq => by
  by_cases e : q = i
  · subst e; exact Or.inr up_same
  · rw [up_cell (by omega)]; exact h q hq
theorem sme_bool {b : Nat} {M M1 : Mem} (h : sme b M M1) (hB : ∀ q, q < 9 → BoolOK (M (b + q) 6)) : ∀ q, q < 9 → BoolOK (M1 (b + q) 6) := fun q hq => by
  rcases h q hq with e | e
  · rw [e]; exact hB q hq
  · rw [e]; exact Or.inr rfl
set_option maxRecDepth 100000 in
set_option maxHeartbeats 4000000 in
theorem g_gainsOf_12 (l : Launch) (D : va_G) (y : wY) (ad : Nat → Nat) (M : Mem) (z2 : Nat) (hT2 : TextOK M 2 z2) (c0 : Nat) (hc0 : c0 < 92) (hk0 : kd c0 = 1) : MI l D y ad yX0_gainsOf (Cond.code yX0_gainsOf cX0_gainsOf 2 (some .int)) 3 M [.ref (ad 12), .ref (ad c0)] (fun _ M' => sm (fun b _ => b == 6) M M') := by
  refine MI_of (by decide) (Nat.le_of_ble_eq_true rfl) ?_
  intro p e s m args below meth c X hr hlocks
  refine j_lv (lv1 := [(0, .ref (ad 12)), (1, .ref (ad c0))]) [0, 1] rfl ?_
  refine j_aload_n X 1 rfl rfl dX0_gainsOf_0 ?_
  refine j_aload_n X 0 rfl rfl dX0_gainsOf_1 ?_
  refine j_get X (by decide) (wE_0 _ rfl) rfl awF0 0 (by decide) aw_62 rfl (v := .ref (ad 2)) rfl dX0_gainsOf_2 ?_
  refine j_aload_n X 1 rfl rfl dX0_gainsOf_5 ?_
  refine j_getN X hc0 (wE_1 _ hk0) rfl awF1 3 (by decide) (List.mem_of_getElem? (i := 7) rfl) rfl (v := .int (M c0 3)) rfl dX0_gainsOf_6 ?_
  refine j_aload_n X 1 rfl rfl dX0_gainsOf_9 ?_
  refine j_getN X hc0 (wE_1 _ hk0) rfl awF1 5 (by decide) (List.mem_of_getElem? (i := 11) rfl) rfl (v := .int (M c0 5)) rfl dX0_gainsOf_10 ?_
  refine j_aload_n X 0 rfl rfl dX0_gainsOf_13 ?_
  refine j_get X (by decide) (wE_0 _ rfl) rfl awF0 6 (by decide) aw_197 rfl (v := .int (M 12 6)) rfl dX0_gainsOf_14 ?_
  refine j_bipush X (v := 7) (by decide) dX0_gainsOf_17 ?_
  refine j_irem X (by decide) dX0_gainsOf_19 ?_
  refine j_callVNI X (nn := 3) (As := [.int (M c0 3), .int (M c0 5), .int ((M 12 6) - (M 12 6) / 7 * 7)]) (st := [.ref (ad c0)]) (ci := 4) (by decide) (wE_4 _ rfl) rfl aw_198 aw_199 (g_gives_2 l D y ad M z2 hT2 (M c0 3) (M c0 5) ((M 12 6) - (M 12 6) / 7 * 7)) (List.mem_of_getElem? (i := 14) rfl) aw_200 aw_41 (by decide +kernel) ⟨by decide, by decide⟩ rfl (Nat.le_of_ble_eq_true rfl) ⟨by decide, by decide⟩ dX0_gainsOf_20 ?_
  rintro r_2 M_3 s_1
  refine j_aload_n X 0 rfl rfl dX0_gainsOf_23 ?_
  refine j_get X (by decide) (wE_0 _ rfl) rfl awF0 6 (by decide) aw_197 rfl (v := .int (M_3 12 6)) rfl dX0_gainsOf_24 ?_
  refine j_callVNI X (nn := 2) (As := [.int r_2, .int (M_3 12 6)]) (st := []) (ci := 1) hc0 (wE_1 _ hk0) rfl aw_215 aw_216 (g_gains l D y ad M_3 c0 hc0 hk0 r_2 (M_3 12 6)) (List.mem_of_getElem? (i := 15) rfl) aw_217 aw_65 (by decide +kernel) ⟨by decide, by decide⟩ rfl (Nat.le_of_ble_eq_true rfl) ⟨by decide, by decide⟩ dX0_gainsOf_27 ?_
  rintro r_4 M1_ rfl
  exact j_iret X hr hlocks dX0_gainsOf_30 (sm_tr sm_rf (sm_w s_1 (by intro b k hb; first | rfl | exact hb | (simp only [Bool.or_eq_false_iff, Bool.and_eq_false_iff, beq_eq_false_iff_ne, ne_eq, decide_eq_false_iff_not] at hb ⊢; omega))))
set_option maxRecDepth 100000 in
set_option maxHeartbeats 4000000 in
theorem g_gainsOf_49 (l : Launch) (D : va_G) (y : wY) (ad : Nat → Nat) (M : Mem) (z2 : Nat) (hT2 : TextOK M 2 z2) (c0 : Nat) (hc0 : c0 < 92) (hk0 : kd c0 = 1) : MI l D y ad yX0_gainsOf (Cond.code yX0_gainsOf cX0_gainsOf 2 (some .int)) 3 M [.ref (ad 49), .ref (ad c0)] (fun _ M' => sm (fun b _ => b == 6) M M') := by
  refine MI_of (by decide) (Nat.le_of_ble_eq_true rfl) ?_
  intro p e s m args below meth c X hr hlocks
  refine j_lv (lv1 := [(0, .ref (ad 49)), (1, .ref (ad c0))]) [0, 1] rfl ?_
  refine j_aload_n X 1 rfl rfl dX0_gainsOf_0 ?_
  refine j_aload_n X 0 rfl rfl dX0_gainsOf_1 ?_
  refine j_get X (by decide) (wE_0 _ rfl) rfl awF0 0 (by decide) aw_62 rfl (v := .ref (ad 2)) rfl dX0_gainsOf_2 ?_
  refine j_aload_n X 1 rfl rfl dX0_gainsOf_5 ?_
  refine j_getN X hc0 (wE_1 _ hk0) rfl awF1 3 (by decide) (List.mem_of_getElem? (i := 7) rfl) rfl (v := .int (M c0 3)) rfl dX0_gainsOf_6 ?_
  refine j_aload_n X 1 rfl rfl dX0_gainsOf_9 ?_
  refine j_getN X hc0 (wE_1 _ hk0) rfl awF1 5 (by decide) (List.mem_of_getElem? (i := 11) rfl) rfl (v := .int (M c0 5)) rfl dX0_gainsOf_10 ?_
  refine j_aload_n X 0 rfl rfl dX0_gainsOf_13 ?_
  refine j_get X (by decide) (wE_0 _ rfl) rfl awF0 6 (by decide) aw_197 rfl (v := .int (M 49 6)) rfl dX0_gainsOf_14 ?_
  refine j_bipush X (v := 7) (by decide) dX0_gainsOf_17 ?_
  refine j_irem X (by decide) dX0_gainsOf_19 ?_
  refine j_callVNI X (nn := 3) (As := [.int (M c0 3), .int (M c0 5), .int ((M 49 6) - (M 49 6) / 7 * 7)]) (st := [.ref (ad c0)]) (ci := 4) (by decide) (wE_4 _ rfl) rfl aw_198 aw_199 (g_gives_2 l D y ad M z2 hT2 (M c0 3) (M c0 5) ((M 49 6) - (M 49 6) / 7 * 7)) (List.mem_of_getElem? (i := 14) rfl) aw_200 aw_41 (by decide +kernel) ⟨by decide, by decide⟩ rfl (Nat.le_of_ble_eq_true rfl) ⟨by decide, by decide⟩ dX0_gainsOf_20 ?_
  rintro r_2 M_3 s_1
  refine j_aload_n X 0 rfl rfl dX0_gainsOf_23 ?_
  refine j_get X (by decide) (wE_0 _ rfl) rfl awF0 6 (by decide) aw_197 rfl (v := .int (M_3 49 6)) rfl dX0_gainsOf_24 ?_
  refine j_callVNI X (nn := 2) (As := [.int r_2, .int (M_3 49 6)]) (st := []) (ci := 1) hc0 (wE_1 _ hk0) rfl aw_215 aw_216 (g_gains l D y ad M_3 c0 hc0 hk0 r_2 (M_3 49 6)) (List.mem_of_getElem? (i := 15) rfl) aw_217 aw_65 (by decide +kernel) ⟨by decide, by decide⟩ rfl (Nat.le_of_ble_eq_true rfl) ⟨by decide, by decide⟩ dX0_gainsOf_27 ?_
  rintro r_4 M1_ rfl
  exact j_iret X hr hlocks dX0_gainsOf_30 (sm_tr sm_rf (sm_w s_1 (by intro b k hb; first | rfl | exact hb | (simp only [Bool.or_eq_false_iff, Bool.and_eq_false_iff, beq_eq_false_iff_ne, ne_eq, decide_eq_false_iff_not] at hb ⊢; omega))))
set_option maxRecDepth 100000 in
set_option maxHeartbeats 4000000 in
theorem g_isFree_12 (l : Launch) (D : va_G) (y : wY) (ad : Nat → Nat) (M : Mem) (n : Nat) (hn : n ≤ 9) (hm : M 12 3 = nI n) (q : Nat) (hq : q < 9) : MI l D y ad yX0_isFree (Cond.code yX0_isFree cX0_isFree 2 (some .boolean)) 1 M [.ref (ad 12), .ref (ad (14 + q))] (fun r M' => (0 = r ∧ M = M') ∨ (1 = r ∧ M = M')) := by
  refine MI_of (by decide) (Nat.le_of_ble_eq_true rfl) ?_
  intro p e s m args below meth c X hr hlocks
  refine j_lv (lv1 := [(0, .ref (ad 12)), (1, .ref (ad (14 + q)))]) [0, 1] rfl ?_
  refine j_aload_n X 1 rfl rfl dX0_isFree_0 ?_
  refine j_getN X (by omega) (wE_1 _ (kd_one12 (by omega))) rfl awF1 4 (by decide) (List.mem_of_getElem? (i := 9) rfl) rfl (v := .int (M (14 + q) 4)) rfl dX0_isFree_1 ?_
  refine j_iconst X (v := 0) (by decide) dX0_isFree_4 ?_
  refine j_aload_n X 0 rfl rfl dX0_isFree_5 ?_
  refine j_get X (by decide) (wE_0 _ rfl) rfl awF0 3 (by decide) aw_155 rfl (v := .int (M 12 3)) rfl dX0_isFree_6 ?_
  refine j_eqi (v := (nI n)) hm ?_
  refine j_iconst X (v := 1) (by decide) dX0_isFree_9 ?_
  refine j_isub X dX0_isFree_10 ?_
  refine j_callSNI X (nn := 3) (As := [.int (M (14 + q) 4), .int 0, .int ((nI n) - 1)]) (st := []) aw_110 (g_X7_isWithin l D y ad M (M (14 + q) 4) 0 ((nI n) - 1) 0 (((n : Nat) : Int) - 1) (by decide) (nI_m1 (by omega))) (List.mem_of_getElem? (i := 29) rfl) aw_111 aw_2 (by decide +kernel) ⟨by decide, by decide⟩ rfl (Nat.le_of_ble_eq_true rfl) ⟨by decide, by decide⟩ dX0_isFree_11 ?_
  rintro r_ M1_ (⟨rfl, rfl, h_1⟩ | ⟨rfl, rfl, h_1⟩)
  · refine j_if_eq X 32 (by decide) dX0_isFree_14 (fun c_2 => False.elim (by revert c_2; decide)) (fun c_2 => ?_)
    refine j_aload_n X 0 rfl rfl dX0_isFree_17 ?_
    refine j_get X (by decide) (wE_0 _ rfl) rfl awF0 2 (by decide) aw_60 rfl (v := .ref (ad 13)) rfl dX0_isFree_18 ?_
    refine j_aload_n X 1 rfl rfl dX0_isFree_21 ?_
    refine j_getN X (by omega) (wE_1 _ (kd_one12 (by omega))) rfl awF1 4 (by decide) (List.mem_of_getElem? (i := 9) rfl) rfl (v := .int (M (14 + q) 4)) rfl dX0_isFree_22 ?_
    obtain ⟨j_3, hj_3, ej_3⟩ := nI_oft (x := (M (14 + q) 4)) (n := 8) (by omega) (by omega) (by decide)
    refine j_eqi (v := nI j_3) ej_3 ?_
    refine j_aald10 X (by decide) rfl (show vp_in (nI j_3) 9 from vp_in_nI (by omega) (by decide)) dX0_isFree_25 ?_
    refine j_eqr (v := 14 + j_3) (by rw [nI_clamp (by omega)]; exact rf_one12 (by omega)) ?_
    refine j_getN X (by omega) (wE_1 _ (kd_one12 (by omega))) rfl awF1 6 (by decide) (List.mem_of_getElem? (i := 13) rfl) rfl (v := .int (M (14 + j_3) 6)) rfl dX0_isFree_26 ?_
    refine j_if_eq X 36 (by decide) dX0_isFree_29 (fun c_4 => ?_) (fun c_4 => ?_)
    · have qc_4 := ti_eq (n := 0) (by decide) c_4
      refine j_iconst X (v := 0) (by decide) dX0_isFree_36 ?_
      exact j_zret X hr hlocks (Or.inl rfl) dX0_isFree_37 (Or.inl ⟨rfl, rfl⟩)
    · have qc_4 := ti_ne (n := 0) (by decide) c_4
      refine j_iconst X (v := 1) (by decide) dX0_isFree_32 ?_
      refine j_goto X 37 (by decide) dX0_isFree_33 ?_
      exact j_zret X hr hlocks (Or.inr rfl) dX0_isFree_37 (Or.inr ⟨rfl, rfl⟩)
  · refine j_if_eq X 32 (by decide) dX0_isFree_14 (fun c_5 => ?_) (fun c_5 => False.elim (by revert c_5; decide))
    refine j_iconst X (v := 1) (by decide) dX0_isFree_32 ?_
    refine j_goto X 37 (by decide) dX0_isFree_33 ?_
    exact j_zret X hr hlocks (Or.inr rfl) dX0_isFree_37 (Or.inr ⟨rfl, rfl⟩)
set_option maxRecDepth 100000 in
set_option maxHeartbeats 4000000 in
theorem g_grindArea_12 (l : Launch) (D : va_G) (y : wY) (ad : Nat → Nat) (M : Mem) (n : Nat) (hn : n ≤ 9) (hm : M 12 3 = nI n) (z2 z7 : Nat) (hT2 : TextOK M 2 z2) (hT7 : TextOK M 7 z7) : MV l D y ad yX0_grindArea (Cond.code yX0_grindArea cX0_grindArea 3 none) 4 M [.ref (ad 12)] (fun M' => sm (fun b k => b == 6 || b == 11 || (b == 12 && (k == 4 || k == 6 || k == 7 || k == 8)) || (decide (14 ≤ b) && decide (b ≤ 22) && (k == 3 || k == 5))) M M') := by
  refine MV_of (by decide) (Nat.le_of_ble_eq_true rfl) ?_
  intro p e s m args below meth c X hr hlocks
  refine j_lv (lv1 := [(0, .ref (ad 12))]) [0] rfl ?_
  refine j_iconst X (v := 0) (by decide) dX0_grindArea_0 ?_
  refine j_istore_n X [(1, .int 0), (0, .ref (ad 12))] rfl (by decide) rfl dX0_grindArea_1 ?_
  have loop1 : ∀ (n_1 i_1 : Nat) (M1 : Mem), i_1 ≤ n → n - i_1 < n_1 → sm (fun b k => b == 6 || b == 11 || (b == 12 && (k == 4 || k == 6 || k == 7 || k == 8)) || (decide (14 ≤ b) && decide (b ≤ 22) && (k == 3 || k == 5))) M M1 → J p l e (rmN 4) s m args below meth c 0 0 (QV (fun M' => sm (fun b k => b == 6 || b == 11 || (b == 12 && (k == 4 || k == 6 || k == 7 || k == 8)) || (decide (14 ≤ b) && decide (b ≤ 22) && (k == 3 || k == 5))) M M') D y ad M s args below) D y ad (va_A (PL y ad M) s.heap.size) 3 M1 2 [(1, .int (nI i_1)), (0, .ref (ad 12))] [] := by
    intro n_1
    induction n_1 with
    | zero => intro i_1 M1 h1 h2; exact absurd h2 (by omega)
    | succ n_1 ih1 =>
      intro i_1 M1 h1i_1 h2i_1 hs1
      refine j_iload_n X 0 rfl rfl dX0_grindArea_2 ?_
      refine j_aload_n X 1 rfl rfl dX0_grindArea_3 ?_
      refine j_get X (by decide) (wE_0 _ rfl) rfl awF0 3 (by decide) aw_155 rfl (v := .int (M1 12 3)) rfl dX0_grindArea_4 ?_
      refine j_eqi (v := (nI n)) ((hs1 12 3 rfl).trans hm) ?_
      refine j_icmp_ge X 75 (by decide) dX0_grindArea_7 (fun c_2 => ?_) (fun c_2 => ?_)
      · have c_2 := (nI_leI (by omega) (by omega)).mp (show nI (n) ≤ nI i_1 from c_2)
        exact j_vret X hr hlocks dX0_grindArea_75 (sm_tr sm_rf (sm_w hs1 (by intro b k hb; first | rfl | exact hb | (simp only [Bool.or_eq_false_iff, Bool.and_eq_false_iff, beq_eq_false_iff_ne, ne_eq, decide_eq_false_iff_not] at hb ⊢; omega))))
      · have c_2 : i_1 < n := by
          rcases Nat.lt_or_ge i_1 (n) with g | g
          · exact g
          · exact absurd (show nI (n) ≤ nI i_1 from nI_le g (by omega)) c_2
        refine j_aload_n X 1 rfl rfl dX0_grindArea_10 ?_
        refine j_get X (by decide) (wE_0 _ rfl) rfl awF0 2 (by decide) aw_60 rfl (v := .ref (ad 13)) rfl dX0_grindArea_11 ?_
        refine j_iload_n X 0 rfl rfl dX0_grindArea_14 ?_
        refine j_aald10 X (by decide) rfl (show vp_in (nI i_1) 9 from vp_in_nI (by omega) (by decide)) dX0_grindArea_15 ?_
        refine j_eqr (v := 14 + i_1) (by rw [nI_clamp (by omega)]; exact rf_one12 (by omega)) ?_
        refine j_astore_n X [(2, .ref (ad (14 + i_1))), (1, .int (nI i_1)), (0, .ref (ad 12))] rfl (by decide) rfl dX0_grindArea_16 ?_
        refine j_aload_n X 0 rfl rfl dX0_grindArea_17 ?_
        refine j_getN X (by omega) (wE_1 _ (kd_one12 (by omega))) rfl awF1 2 (by decide) (List.mem_of_getElem? (i := 5) rfl) rfl (v := .int (M1 (14 + i_1) 2)) rfl dX0_grindArea_18 ?_
        refine j_aload_n X 2 rfl rfl dX0_grindArea_21 ?_
        refine j_get X (by decide) (wE_0 _ rfl) rfl awF0 4 (by decide) aw_124 rfl (v := .int (M1 12 4)) rfl dX0_grindArea_22 ?_
        refine j_icmp_ne X 69 (by decide) dX0_grindArea_25 (fun c_3 => ?_) (fun c_3 => ?_)
        · refine j_iinc X (v := (nI (i_1 + 1))) 1 [(1, .int (nI (i_1 + 1))), (2, .ref (ad (14 + i_1))), (0, .ref (ad 12))] rfl (show nI i_1 + Int32.ofInt 1 = _ from nI_1 i_1) (by decide) rfl dX0_grindArea_69 ?_
          refine j_goto X 2 (by decide) dX0_grindArea_72 ?_
          refine j_lv (lv1 := [(1, .int (nI (i_1 + 1))), (0, .ref (ad 12))]) [0, 2] rfl ?_
          exact ih1 (i_1 + 1) _ (by omega) (by omega) hs1
        · refine j_aload_n X 0 rfl rfl dX0_grindArea_28 ?_
          refine j_getN X (by omega) (wE_1 _ (kd_one12 (by omega))) rfl awF1 6 (by decide) (List.mem_of_getElem? (i := 13) rfl) rfl (v := .int (M1 (14 + i_1) 6)) rfl dX0_grindArea_29 ?_
          refine j_if_ne X 69 (by decide) dX0_grindArea_32 (fun c_4 => ?_) (fun c_4 => ?_)
          · have qc_4 := ti_ne (n := 0) (by decide) c_4
            refine j_iinc X (v := (nI (i_1 + 1))) 1 [(1, .int (nI (i_1 + 1))), (2, .ref (ad (14 + i_1))), (0, .ref (ad 12))] rfl (show nI i_1 + Int32.ofInt 1 = _ from nI_1 i_1) (by decide) rfl dX0_grindArea_69 ?_
            refine j_goto X 2 (by decide) dX0_grindArea_72 ?_
            refine j_lv (lv1 := [(1, .int (nI (i_1 + 1))), (0, .ref (ad 12))]) [0, 2] rfl ?_
            exact ih1 (i_1 + 1) _ (by omega) (by omega) hs1
          · have qc_4 := ti_eq (n := 0) (by decide) c_4
            refine j_aload_n X 0 rfl rfl dX0_grindArea_35 ?_
            refine j_bipush X (v := 99) (by decide) dX0_grindArea_36 ?_
            refine j_aload_n X 0 rfl rfl dX0_grindArea_38 ?_
            refine j_getN X (by omega) (wE_1 _ (kd_one12 (by omega))) rfl awF1 3 (by decide) (List.mem_of_getElem? (i := 7) rfl) rfl (v := .int (M1 (14 + i_1) 3)) rfl dX0_grindArea_39 ?_
            refine j_aload_n X 2 rfl rfl dX0_grindArea_42 ?_
            refine j_aload_n X 0 rfl rfl dX0_grindArea_43 ?_
            refine j_callVI X (nn := 1) (As := [.ref (ad (14 + i_1))]) (st := [.int (M1 (14 + i_1) 3), .int 99, .ref (ad (14 + i_1))]) (ci := 0) (by decide) (wE_0 _ rfl) rfl aw_194 aw_195 (g_gainsOf_12 l D y ad M1 z2 (TextOK_keep (P := (fun b k => b == 6 || b == 11 || (b == 12 && (k == 4 || k == 6 || k == 7 || k == 8)) || (decide (14 ≤ b) && decide (b ≤ 22) && (k == 3 || k == 5)))) (sm_tr sm_rf (sm_w hs1 (by intro b k hb; first | rfl | exact hb | (simp only [Bool.or_eq_false_iff, Bool.and_eq_false_iff, beq_eq_false_iff_ne, ne_eq, decide_eq_false_iff_not] at hb ⊢; omega)))) (fun _ => rfl) (fun _ => rfl) (fun _ => rfl) (fun _ => rfl) hT2) (14 + i_1) (by omega) (kd_one12 (by omega))) aw_448 aw_196 aw_20 (by decide +kernel) ⟨by decide, by decide⟩ rfl (Nat.le_of_ble_eq_true rfl) ⟨by decide, by decide⟩ dX0_grindArea_44 ?_
            rintro r_6 M_7 s_5
            refine j_iadd X dX0_grindArea_47 ?_
            refine j_mmin X aw_446 aw_202 aw_203 aw_204 (by decide) (Nat.le_of_ble_eq_true rfl) (by decide) (by decide) dX0_grindArea_48 ?_
            refine j_putN X (up M_7 (14 + i_1) 3 (if ((M1 (14 + i_1) 3) + r_6) < 99 then ((M1 (14 + i_1) 3) + r_6) else 99)) up_o (by omega) (wE_1 _ (kd_one12 (by omega))) rfl awF1 3 (by decide) (wP_1_3 _ _ (kd_one12 (by omega))) tyX1 tyX1_ok nmX1 rfl (ty := .int) (by decide +kernel) rfl rfl (Nat.le_of_ble_eq_true rfl) (List.mem_of_getElem? (i := 7) rfl) rfl dX0_grindArea_51 ?_
            refine j_aload_n X 2 rfl rfl dX0_grindArea_54 ?_
            refine j_ldc X (v := 99999) aw_447 dX0_grindArea_55 ?_
            refine j_aload_n X 2 rfl rfl dX0_grindArea_57 ?_
            refine j_get X (by decide) (wE_0 _ rfl) rfl awF0 8 (by decide) aw_126 rfl (v := .int ((up M_7 (14 + i_1) 3 (if ((M1 (14 + i_1) 3) + r_6) < 99 then ((M1 (14 + i_1) 3) + r_6) else 99)) 12 8)) rfl dX0_grindArea_58 ?_
            refine j_eqi (v := M_7 12 8) ((up_cell (by omega)).trans rfl) ?_
            refine j_iconst X (v := 3) (by decide) dX0_grindArea_61 ?_
            refine j_iadd X dX0_grindArea_62 ?_
            refine j_mmin X aw_446 aw_202 aw_203 aw_204 (by decide) (Nat.le_of_ble_eq_true rfl) (by decide) (by decide) dX0_grindArea_63 ?_
            refine j_put X (up (up M_7 (14 + i_1) 3 (if ((M1 (14 + i_1) 3) + r_6) < 99 then ((M1 (14 + i_1) 3) + r_6) else 99)) 12 8 (if ((M_7 12 8) + 3) < 99999 then ((M_7 12 8) + 3) else 99999)) up_o (by decide) (wE_0 _ rfl) rfl awF0 8 (by decide) (wP_0_8 _ _ rfl) tyX0 tyX0_ok nmX0 rfl (ty := .int) (by decide +kernel) rfl rfl (Nat.le_of_ble_eq_true rfl) aw_126 rfl dX0_grindArea_66 ?_
            refine j_iinc X (v := (nI (i_1 + 1))) 1 [(1, .int (nI (i_1 + 1))), (2, .ref (ad (14 + i_1))), (0, .ref (ad 12))] rfl (show nI i_1 + Int32.ofInt 1 = _ from nI_1 i_1) (by decide) rfl dX0_grindArea_69 ?_
            refine j_goto X 2 (by decide) dX0_grindArea_72 ?_
            refine j_lv (lv1 := [(1, .int (nI (i_1 + 1))), (0, .ref (ad 12))]) [0, 2] rfl ?_
            exact ih1 (i_1 + 1) _ (by omega) (by omega) (sm_up (sm_up (sm_tr hs1 (sm_w s_5 (by intro b k hb; first | rfl | exact hb | (simp only [Bool.or_eq_false_iff, Bool.and_eq_false_iff, beq_eq_false_iff_ne, ne_eq, decide_eq_false_iff_not] at hb ⊢; omega)))) (by first | rfl | (simp; done) | (simp; omega) | (simp only [Bool.and_eq_true, Bool.or_eq_true, decide_eq_true_eq, beq_iff_eq]; omega))) rfl)
  refine j_lv (lv1 := [(1, .int (nI 0)), (0, .ref (ad 12))]) [0, 1] rfl ?_
  exact loop1 (n + 1) 0 _ (by omega) (by omega) sm_rf
set_option maxRecDepth 100000 in
set_option maxHeartbeats 4000000 in
theorem g_endOrDull_12 (l : Launch) (D : va_G) (y : wY) (ad : Nat → Nat) (M : Mem) (n : Nat) (hn : n ≤ 9) (hm : M 12 3 = nI n) (z2 z7 : Nat) (hT2 : TextOK M 2 z2) (hT7 : TextOK M 7 z7) (b1 : Int32) : MV l D y ad yX0_endOrDull (Cond.code yX0_endOrDull cX0_endOrDull 4 none) 4 M [.ref (ad 12), .int b1] (fun M' => sm (fun b k => b == 6 || b == 11 || (b == 12 && (k == 4 || k == 6 || k == 7 || k == 8)) || (decide (14 ≤ b) && decide (b ≤ 22) && (k == 3 || k == 5 || k == 6))) M M' ∧ sme 14 M M') := by
  refine MV_of (by decide) (Nat.le_of_ble_eq_true rfl) ?_
  intro p e s m args below meth c X hr hlocks
  refine j_lv (lv1 := [(0, .ref (ad 12)), (1, .int b1)]) [0, 1] rfl ?_
  refine j_iconst X (v := 0) (by decide) dX0_endOrDull_0 ?_
  refine j_istore_n X [(2, .int 0), (0, .ref (ad 12)), (1, .int b1)] rfl (by decide) rfl dX0_endOrDull_1 ?_
  have loop1 : ∀ (n_1 i_1 : Nat) (M1 : Mem), i_1 ≤ n → n - i_1 < n_1 → sm (fun b k => b == 6 || b == 11 || (b == 12 && (k == 4 || k == 6 || k == 7 || k == 8)) || (decide (14 ≤ b) && decide (b ≤ 22) && (k == 3 || k == 5 || k == 6))) M M1 → (sme 14 M M1) → J p l e (rmN 4) s m args below meth c 0 0 (QV (fun M' => sm (fun b k => b == 6 || b == 11 || (b == 12 && (k == 4 || k == 6 || k == 7 || k == 8)) || (decide (14 ≤ b) && decide (b ≤ 22) && (k == 3 || k == 5 || k == 6))) M M' ∧ sme 14 M M') D y ad M s args below) D y ad (va_A (PL y ad M) s.heap.size) 4 M1 2 [(2, .int (nI i_1)), (0, .ref (ad 12)), (1, .int b1)] [] := by
    intro n_1
    induction n_1 with
    | zero => intro i_1 M1 h1 h2; exact absurd h2 (by omega)
    | succ n_1 ih1 =>
      intro i_1 M1 h1i_1 h2i_1 hs1 hvi_1
      refine j_iload_n X 0 rfl rfl dX0_endOrDull_2 ?_
      refine j_aload_n X 1 rfl rfl dX0_endOrDull_3 ?_
      refine j_get X (by decide) (wE_0 _ rfl) rfl awF0 3 (by decide) aw_155 rfl (v := .int (M1 12 3)) rfl dX0_endOrDull_4 ?_
      refine j_eqi (v := (nI n)) ((hs1 12 3 rfl).trans hm) ?_
      refine j_icmp_ge X 130 (by decide) dX0_endOrDull_7 (fun c_2 => ?_) (fun c_2 => ?_)
      · have c_2 := (nI_leI (by omega) (by omega)).mp (show nI (n) ≤ nI i_1 from c_2)
        exact j_vret X hr hlocks dX0_endOrDull_130 ⟨(sm_tr sm_rf (sm_w hs1 (by intro b k hb; first | rfl | exact hb | (simp only [Bool.or_eq_false_iff, Bool.and_eq_false_iff, beq_eq_false_iff_ne, ne_eq, decide_eq_false_iff_not] at hb ⊢; omega)))), hvi_1⟩
      · have c_2 : i_1 < n := by
          rcases Nat.lt_or_ge i_1 (n) with g | g
          · exact g
          · exact absurd (show nI (n) ≤ nI i_1 from nI_le g (by omega)) c_2
        refine j_aload_n X 1 rfl rfl dX0_endOrDull_10 ?_
        refine j_get X (by decide) (wE_0 _ rfl) rfl awF0 2 (by decide) aw_60 rfl (v := .ref (ad 13)) rfl dX0_endOrDull_11 ?_
        refine j_iload_n X 0 rfl rfl dX0_endOrDull_14 ?_
        refine j_aald10 X (by decide) rfl (show vp_in (nI i_1) 9 from vp_in_nI (by omega) (by decide)) dX0_endOrDull_15 ?_
        refine j_eqr (v := 14 + i_1) (by rw [nI_clamp (by omega)]; exact rf_one12 (by omega)) ?_
        refine j_astore_n X [(3, .ref (ad (14 + i_1))), (2, .int (nI i_1)), (0, .ref (ad 12)), (1, .int b1)] rfl (by decide) rfl dX0_endOrDull_16 ?_
        refine j_aload_n X 0 rfl rfl dX0_endOrDull_17 ?_
        refine j_getN X (by omega) (wE_1 _ (kd_one12 (by omega))) rfl awF1 6 (by decide) (List.mem_of_getElem? (i := 13) rfl) rfl (v := .int (M1 (14 + i_1) 6)) rfl dX0_endOrDull_18 ?_
        refine j_if_eq X 27 (by decide) dX0_endOrDull_21 (fun c_3 => ?_) (fun c_3 => ?_)
        · have qc_3 := ti_eq (n := 0) (by decide) c_3
          refine j_aload_n X 0 rfl rfl dX0_endOrDull_27 ?_
          refine j_getN X (by omega) (wE_1 _ (kd_one12 (by omega))) rfl awF1 3 (by decide) (List.mem_of_getElem? (i := 7) rfl) rfl (v := .int (M1 (14 + i_1) 3)) rfl dX0_endOrDull_28 ?_
          refine j_aload_n X 0 rfl rfl dX0_endOrDull_31 ?_
          refine j_callVNI X (nn := 0) (As := []) (st := [.int (M1 (14 + i_1) 3)]) (ci := 1) (by omega) (wE_1 _ (kd_one12 (by omega))) rfl aw_220 aw_221 (g_needs l D y ad M1 (14 + i_1) (by omega) (kd_one12 (by omega))) (List.mem_of_getElem? (i := 28) rfl) aw_222 aw_65 (by decide +kernel) ⟨by decide, by decide⟩ rfl (Nat.le_of_ble_eq_true rfl) ⟨by decide, by decide⟩ dX0_endOrDull_32 ?_
          rintro r_4 M1_ rfl
          refine j_icmp_lt X 54 (by decide) dX0_endOrDull_35 (fun c_5 => ?_) (fun c_5 => ?_)
          · have qc_5 := ti_lt (a := (M1 (14 + i_1) 3).toInt) (b := r_4.toInt) rfl rfl c_5
            refine j_iload_n X 3 rfl rfl dX0_endOrDull_54 ?_
            refine j_if_eq X 91 (by decide) dX0_endOrDull_55 (fun c_6 => ?_) (fun c_6 => ?_)
            · have qc_6 := ti_eq (n := 0) (by decide) c_6
              refine j_aload_n X 0 rfl rfl dX0_endOrDull_91 ?_
              refine j_iconst X (v := 0) (by decide) dX0_endOrDull_92 ?_
              refine j_aload_n X 0 rfl rfl dX0_endOrDull_93 ?_
              refine j_getN X (by omega) (wE_1 _ (kd_one12 (by omega))) rfl awF1 3 (by decide) (List.mem_of_getElem? (i := 7) rfl) rfl (v := .int (M1 (14 + i_1) 3)) rfl dX0_endOrDull_94 ?_
              refine j_aload_n X 0 rfl rfl dX0_endOrDull_97 ?_
              refine j_callVNI X (nn := 0) (As := []) (st := [.int (M1 (14 + i_1) 3), .int 0, .ref (ad (14 + i_1))]) (ci := 1) (by omega) (wE_1 _ (kd_one12 (by omega))) rfl aw_223 aw_224 (g_dulls l D y ad M1 (14 + i_1) (by omega) (kd_one12 (by omega))) (List.mem_of_getElem? (i := 30) rfl) aw_225 aw_65 (by decide +kernel) ⟨by decide, by decide⟩ rfl (Nat.le_of_ble_eq_true rfl) ⟨by decide, by decide⟩ dX0_endOrDull_98 ?_
              rintro r_7 M1_ rfl
              refine j_isub X dX0_endOrDull_101 ?_
              refine j_mmax X aw_457 aw_206 aw_203 aw_207 (by decide) (Nat.le_of_ble_eq_true rfl) (by decide) (by decide) dX0_endOrDull_102 ?_
              refine j_putN X (up M1 (14 + i_1) 3 (if 0 < ((M1 (14 + i_1) 3) - r_7) then ((M1 (14 + i_1) 3) - r_7) else 0)) up_o (by omega) (wE_1 _ (kd_one12 (by omega))) rfl awF1 3 (by decide) (wP_1_3 _ _ (kd_one12 (by omega))) tyX1 tyX1_ok nmX1 rfl (ty := .int) (by decide +kernel) rfl rfl (Nat.le_of_ble_eq_true rfl) (List.mem_of_getElem? (i := 7) rfl) rfl dX0_endOrDull_105 ?_
              refine j_aload_n X 0 rfl rfl dX0_endOrDull_108 ?_
              refine j_sipush X (v := 999) (by decide) dX0_endOrDull_109 ?_
              refine j_aload_n X 0 rfl rfl dX0_endOrDull_112 ?_
              refine j_getN X (by omega) (wE_1 _ (kd_one12 (by omega))) rfl awF1 5 (by decide) (List.mem_of_getElem? (i := 11) rfl) rfl (v := .int ((up M1 (14 + i_1) 3 (if 0 < ((M1 (14 + i_1) 3) - r_7) then ((M1 (14 + i_1) 3) - r_7) else 0)) (14 + i_1) 5)) rfl dX0_endOrDull_113 ?_
              refine j_eqi (v := M1 (14 + i_1) 5) ((up_slot _ (by decide)).trans rfl) ?_
              refine j_iconst X (v := 1) (by decide) dX0_endOrDull_116 ?_
              refine j_iadd X dX0_endOrDull_117 ?_
              refine j_mmin X aw_446 aw_202 aw_203 aw_204 (by decide) (Nat.le_of_ble_eq_true rfl) (by decide) (by decide) dX0_endOrDull_118 ?_
              refine j_putN X (up (up M1 (14 + i_1) 3 (if 0 < ((M1 (14 + i_1) 3) - r_7) then ((M1 (14 + i_1) 3) - r_7) else 0)) (14 + i_1) 5 (if ((M1 (14 + i_1) 5) + 1) < 999 then ((M1 (14 + i_1) 5) + 1) else 999)) up_o (by omega) (wE_1 _ (kd_one12 (by omega))) rfl awF1 5 (by decide) (wP_1_5 _ _ (kd_one12 (by omega))) tyX1 tyX1_ok nmX1 rfl (ty := .int) (by decide +kernel) rfl rfl (Nat.le_of_ble_eq_true rfl) (List.mem_of_getElem? (i := 11) rfl) rfl dX0_endOrDull_121 ?_
              refine j_iinc X (v := (nI (i_1 + 1))) 1 [(2, .int (nI (i_1 + 1))), (3, .ref (ad (14 + i_1))), (0, .ref (ad 12)), (1, .int b1)] rfl (show nI i_1 + Int32.ofInt 1 = _ from nI_1 i_1) (by decide) rfl dX0_endOrDull_124 ?_
              refine j_goto X 2 (by decide) dX0_endOrDull_127 ?_
              refine j_lv (lv1 := [(2, .int (nI (i_1 + 1))), (0, .ref (ad 12)), (1, .int b1)]) [0, 2, 3] rfl ?_
              exact ih1 (i_1 + 1) _ (by omega) (by omega) (sm_up (sm_up hs1 (by first | rfl | (simp; done) | (simp; omega) | (simp only [Bool.and_eq_true, Bool.or_eq_true, decide_eq_true_eq, beq_iff_eq]; omega))) (by first | rfl | (simp; done) | (simp; omega) | (simp only [Bool.and_eq_true, Bool.or_eq_true, decide_eq_true_eq, beq_iff_eq]; omega))) (sme_keep (P := (fun b k => b == 6 || b == 11 || (b == 12 && (k == 4 || k == 6 || k == 7 || k == 8)) || (decide (14 ≤ b) && decide (b ≤ 22) && (k == 3 || k == 5)))) (sme_keep (P := (fun b k => b == 6 || b == 11 || (b == 12 && (k == 4 || k == 6 || k == 7 || k == 8)) || (decide (14 ≤ b) && decide (b ≤ 22) && (k == 3 || k == 5)))) hvi_1 (sm_up sm_rf (by first | rfl | (simp; done) | (simp; omega) | (simp only [Bool.and_eq_true, Bool.or_eq_true, decide_eq_true_eq, beq_iff_eq]; omega))) (fun q hq => by first | rfl | (simp; done) | (simp; omega))) (sm_up sm_rf (by first | rfl | (simp; done) | (simp; omega) | (simp only [Bool.and_eq_true, Bool.or_eq_true, decide_eq_true_eq, beq_iff_eq]; omega))) (fun q hq => by first | rfl | (simp; done) | (simp; omega)))
            · have qc_6 := ti_ne (n := 0) (by decide) c_6
              refine j_aload_n X 2 rfl rfl dX0_endOrDull_58 ?_
              refine j_ldc X (v := 99999) aw_447 dX0_endOrDull_59 ?_
              refine j_aload_n X 2 rfl rfl dX0_endOrDull_61 ?_
              refine j_get X (by decide) (wE_0 _ rfl) rfl awF0 7 (by decide) aw_125 rfl (v := .int (M1 12 7)) rfl dX0_endOrDull_62 ?_
              refine j_aload_n X 2 rfl rfl dX0_endOrDull_65 ?_
              refine j_get X (by decide) (wE_0 _ rfl) rfl awF0 1 (by decide) aw_63 rfl (v := .ref (ad 7)) rfl dX0_endOrDull_66 ?_
              refine j_aload_n X 0 rfl rfl dX0_endOrDull_69 ?_
              refine j_getN X (by omega) (wE_1 _ (kd_one12 (by omega))) rfl awF1 3 (by decide) (List.mem_of_getElem? (i := 7) rfl) rfl (v := .int (M1 (14 + i_1) 3)) rfl dX0_endOrDull_70 ?_
              refine j_aload_n X 0 rfl rfl dX0_endOrDull_73 ?_
              refine j_getN X (by omega) (wE_1 _ (kd_one12 (by omega))) rfl awF1 5 (by decide) (List.mem_of_getElem? (i := 11) rfl) rfl (v := .int (M1 (14 + i_1) 5)) rfl dX0_endOrDull_74 ?_
              refine j_aload_n X 0 rfl rfl dX0_endOrDull_77 ?_
              refine j_getN X (by omega) (wE_1 _ (kd_one12 (by omega))) rfl awF1 1 (by decide) (List.mem_of_getElem? (i := 3) rfl) rfl (v := .int (M1 (14 + i_1) 1)) rfl dX0_endOrDull_78 ?_
              refine j_callVNI X (nn := 3) (As := [.int (M1 (14 + i_1) 3), .int (M1 (14 + i_1) 5), .int (M1 (14 + i_1) 1)]) (st := [.int (M1 12 7), .int 99999, .ref (ad 12)]) (ci := 4) (by decide) (wE_4 _ rfl) rfl aw_198 aw_199 (g_gives_7 l D y ad M1 z7 (TextOK_keep (P := (fun b k => b == 6 || b == 11 || (b == 12 && (k == 4 || k == 6 || k == 7 || k == 8)) || (decide (14 ≤ b) && decide (b ≤ 22) && (k == 3 || k == 5 || k == 6)))) (sm_tr sm_rf (sm_w hs1 (by intro b k hb; first | rfl | exact hb | (simp only [Bool.or_eq_false_iff, Bool.and_eq_false_iff, beq_eq_false_iff_ne, ne_eq, decide_eq_false_iff_not] at hb ⊢; omega)))) (fun _ => rfl) (fun _ => rfl) (fun _ => rfl) (fun _ => rfl) hT7) (M1 (14 + i_1) 3) (M1 (14 + i_1) 5) (M1 (14 + i_1) 1)) (List.mem_of_getElem? (i := 14) rfl) aw_200 aw_41 (by decide +kernel) ⟨by decide, by decide⟩ rfl (Nat.le_of_ble_eq_true rfl) ⟨by decide, by decide⟩ dX0_endOrDull_81 ?_
              rintro r_9 M_10 s_8
              refine j_iadd X dX0_endOrDull_84 ?_
              refine j_mmin X aw_446 aw_202 aw_203 aw_204 (by decide) (Nat.le_of_ble_eq_true rfl) (by decide) (by decide) dX0_endOrDull_85 ?_
              refine j_put X (up M_10 12 7 (if ((M1 12 7) + r_9) < 99999 then ((M1 12 7) + r_9) else 99999)) up_o (by decide) (wE_0 _ rfl) rfl awF0 7 (by decide) (wP_0_7 _ _ rfl) tyX0 tyX0_ok nmX0 rfl (ty := .int) (by decide +kernel) rfl rfl (Nat.le_of_ble_eq_true rfl) aw_125 rfl dX0_endOrDull_88 ?_
              refine j_aload_n X 0 rfl rfl dX0_endOrDull_91 ?_
              refine j_iconst X (v := 0) (by decide) dX0_endOrDull_92 ?_
              refine j_aload_n X 0 rfl rfl dX0_endOrDull_93 ?_
              refine j_getN X (by omega) (wE_1 _ (kd_one12 (by omega))) rfl awF1 3 (by decide) (List.mem_of_getElem? (i := 7) rfl) rfl (v := .int ((up M_10 12 7 (if ((M1 12 7) + r_9) < 99999 then ((M1 12 7) + r_9) else 99999)) (14 + i_1) 3)) rfl dX0_endOrDull_94 ?_
              refine j_eqi (v := M_10 (14 + i_1) 3) ((up_cell (by omega)).trans rfl) ?_
              refine j_aload_n X 0 rfl rfl dX0_endOrDull_97 ?_
              refine j_callVNI X (nn := 0) (As := []) (st := [.int (M_10 (14 + i_1) 3), .int 0, .ref (ad (14 + i_1))]) (ci := 1) (by omega) (wE_1 _ (kd_one12 (by omega))) rfl aw_223 aw_224 (g_dulls l D y ad (up M_10 12 7 (if ((M1 12 7) + r_9) < 99999 then ((M1 12 7) + r_9) else 99999)) (14 + i_1) (by omega) (kd_one12 (by omega))) (List.mem_of_getElem? (i := 30) rfl) aw_225 aw_65 (by decide +kernel) ⟨by decide, by decide⟩ rfl (Nat.le_of_ble_eq_true rfl) ⟨by decide, by decide⟩ dX0_endOrDull_98 ?_
              rintro r_11 M1_ rfl
              refine j_isub X dX0_endOrDull_101 ?_
              refine j_mmax X aw_457 aw_206 aw_203 aw_207 (by decide) (Nat.le_of_ble_eq_true rfl) (by decide) (by decide) dX0_endOrDull_102 ?_
              refine j_putN X (up (up M_10 12 7 (if ((M1 12 7) + r_9) < 99999 then ((M1 12 7) + r_9) else 99999)) (14 + i_1) 3 (if 0 < ((M_10 (14 + i_1) 3) - r_11) then ((M_10 (14 + i_1) 3) - r_11) else 0)) up_o (by omega) (wE_1 _ (kd_one12 (by omega))) rfl awF1 3 (by decide) (wP_1_3 _ _ (kd_one12 (by omega))) tyX1 tyX1_ok nmX1 rfl (ty := .int) (by decide +kernel) rfl rfl (Nat.le_of_ble_eq_true rfl) (List.mem_of_getElem? (i := 7) rfl) rfl dX0_endOrDull_105 ?_
              refine j_aload_n X 0 rfl rfl dX0_endOrDull_108 ?_
              refine j_sipush X (v := 999) (by decide) dX0_endOrDull_109 ?_
              refine j_aload_n X 0 rfl rfl dX0_endOrDull_112 ?_
              refine j_getN X (by omega) (wE_1 _ (kd_one12 (by omega))) rfl awF1 5 (by decide) (List.mem_of_getElem? (i := 11) rfl) rfl (v := .int ((up (up M_10 12 7 (if ((M1 12 7) + r_9) < 99999 then ((M1 12 7) + r_9) else 99999)) (14 + i_1) 3 (if 0 < ((M_10 (14 + i_1) 3) - r_11) then ((M_10 (14 + i_1) 3) - r_11) else 0)) (14 + i_1) 5)) rfl dX0_endOrDull_113 ?_
              refine j_eqi (v := M_10 (14 + i_1) 5) ((up_slot _ (by decide)).trans ((up_cell (by omega)).trans rfl)) ?_
              refine j_iconst X (v := 1) (by decide) dX0_endOrDull_116 ?_
              refine j_iadd X dX0_endOrDull_117 ?_
              refine j_mmin X aw_446 aw_202 aw_203 aw_204 (by decide) (Nat.le_of_ble_eq_true rfl) (by decide) (by decide) dX0_endOrDull_118 ?_
              refine j_putN X (up (up (up M_10 12 7 (if ((M1 12 7) + r_9) < 99999 then ((M1 12 7) + r_9) else 99999)) (14 + i_1) 3 (if 0 < ((M_10 (14 + i_1) 3) - r_11) then ((M_10 (14 + i_1) 3) - r_11) else 0)) (14 + i_1) 5 (if ((M_10 (14 + i_1) 5) + 1) < 999 then ((M_10 (14 + i_1) 5) + 1) else 999)) up_o (by omega) (wE_1 _ (kd_one12 (by omega))) rfl awF1 5 (by decide) (wP_1_5 _ _ (kd_one12 (by omega))) tyX1 tyX1_ok nmX1 rfl (ty := .int) (by decide +kernel) rfl rfl (Nat.le_of_ble_eq_true rfl) (List.mem_of_getElem? (i := 11) rfl) rfl dX0_endOrDull_121 ?_
              refine j_iinc X (v := (nI (i_1 + 1))) 1 [(2, .int (nI (i_1 + 1))), (3, .ref (ad (14 + i_1))), (0, .ref (ad 12)), (1, .int b1)] rfl (show nI i_1 + Int32.ofInt 1 = _ from nI_1 i_1) (by decide) rfl dX0_endOrDull_124 ?_
              refine j_goto X 2 (by decide) dX0_endOrDull_127 ?_
              refine j_lv (lv1 := [(2, .int (nI (i_1 + 1))), (0, .ref (ad 12)), (1, .int b1)]) [0, 2, 3] rfl ?_
              exact ih1 (i_1 + 1) _ (by omega) (by omega) (sm_up (sm_up (sm_up (sm_tr hs1 (sm_w s_8 (by intro b k hb; first | rfl | exact hb | (simp only [Bool.or_eq_false_iff, Bool.and_eq_false_iff, beq_eq_false_iff_ne, ne_eq, decide_eq_false_iff_not] at hb ⊢; omega)))) rfl) (by first | rfl | (simp; done) | (simp; omega) | (simp only [Bool.and_eq_true, Bool.or_eq_true, decide_eq_true_eq, beq_iff_eq]; omega))) (by first | rfl | (simp; done) | (simp; omega) | (simp only [Bool.and_eq_true, Bool.or_eq_true, decide_eq_true_eq, beq_iff_eq]; omega))) (sme_keep (P := (fun b k => b == 6 || b == 11 || (b == 12 && (k == 4 || k == 6 || k == 7 || k == 8)) || (decide (14 ≤ b) && decide (b ≤ 22) && (k == 3 || k == 5)))) (sme_keep (P := (fun b k => b == 6 || b == 11 || (b == 12 && (k == 4 || k == 6 || k == 7 || k == 8)) || (decide (14 ≤ b) && decide (b ≤ 22) && (k == 3 || k == 5)))) (sme_keep (P := (fun b k => b == 6 || b == 11 || (b == 12 && (k == 4 || k == 6 || k == 7 || k == 8)) || (decide (14 ≤ b) && decide (b ≤ 22) && (k == 3 || k == 5)))) (sme_keep hvi_1 s_8 (fun q hq => by first | rfl | (simp; done) | (simp; omega))) (sm_up sm_rf (by first | rfl | (simp; done) | (simp; omega) | (simp only [Bool.and_eq_true, Bool.or_eq_true, decide_eq_true_eq, beq_iff_eq]; omega))) (fun q hq => by first | rfl | (simp; done) | (simp; omega))) (sm_up sm_rf (by first | rfl | (simp; done) | (simp; omega) | (simp only [Bool.and_eq_true, Bool.or_eq_true, decide_eq_true_eq, beq_iff_eq]; omega))) (fun q hq => by first | rfl | (simp; done) | (simp; omega))) (sm_up sm_rf (by first | rfl | (simp; done) | (simp; omega) | (simp only [Bool.and_eq_true, Bool.or_eq_true, decide_eq_true_eq, beq_iff_eq]; omega))) (fun q hq => by first | rfl | (simp; done) | (simp; omega)))
          · have qc_5 := ti_nlt (a := (M1 (14 + i_1) 3).toInt) (b := r_4.toInt) rfl rfl c_5
            refine j_aload_n X 2 rfl rfl dX0_endOrDull_38 ?_
            refine j_aload_n X 0 rfl rfl dX0_endOrDull_39 ?_
            refine j_callVI X (nn := 1) (As := [.ref (ad (14 + i_1))]) (st := []) (ci := 0) (by decide) (wE_0 _ rfl) rfl aw_459 aw_460 (g_isFree_12 l D y ad M1 n (by omega) ((hs1 12 3 rfl).trans hm) i_1 (by omega)) aw_458 aw_461 aw_20 (by decide +kernel) ⟨by decide, by decide⟩ rfl (Nat.le_of_ble_eq_true rfl) ⟨by decide, by decide⟩ dX0_endOrDull_40 ?_
            rintro r_ M1_ (⟨rfl, rfl⟩ | ⟨rfl, rfl⟩)
            · refine j_if_eq X 54 (by decide) dX0_endOrDull_43 (fun c_12 => ?_) (fun c_12 => False.elim (by revert c_12; decide))
              refine j_iload_n X 3 rfl rfl dX0_endOrDull_54 ?_
              refine j_if_eq X 91 (by decide) dX0_endOrDull_55 (fun c_13 => ?_) (fun c_13 => ?_)
              · have qc_13 := ti_eq (n := 0) (by decide) c_13
                refine j_aload_n X 0 rfl rfl dX0_endOrDull_91 ?_
                refine j_iconst X (v := 0) (by decide) dX0_endOrDull_92 ?_
                refine j_aload_n X 0 rfl rfl dX0_endOrDull_93 ?_
                refine j_getN X (by omega) (wE_1 _ (kd_one12 (by omega))) rfl awF1 3 (by decide) (List.mem_of_getElem? (i := 7) rfl) rfl (v := .int (M1 (14 + i_1) 3)) rfl dX0_endOrDull_94 ?_
                refine j_aload_n X 0 rfl rfl dX0_endOrDull_97 ?_
                refine j_callVNI X (nn := 0) (As := []) (st := [.int (M1 (14 + i_1) 3), .int 0, .ref (ad (14 + i_1))]) (ci := 1) (by omega) (wE_1 _ (kd_one12 (by omega))) rfl aw_223 aw_224 (g_dulls l D y ad M1 (14 + i_1) (by omega) (kd_one12 (by omega))) (List.mem_of_getElem? (i := 30) rfl) aw_225 aw_65 (by decide +kernel) ⟨by decide, by decide⟩ rfl (Nat.le_of_ble_eq_true rfl) ⟨by decide, by decide⟩ dX0_endOrDull_98 ?_
                rintro r_14 M1_ rfl
                refine j_isub X dX0_endOrDull_101 ?_
                refine j_mmax X aw_457 aw_206 aw_203 aw_207 (by decide) (Nat.le_of_ble_eq_true rfl) (by decide) (by decide) dX0_endOrDull_102 ?_
                refine j_putN X (up M1 (14 + i_1) 3 (if 0 < ((M1 (14 + i_1) 3) - r_14) then ((M1 (14 + i_1) 3) - r_14) else 0)) up_o (by omega) (wE_1 _ (kd_one12 (by omega))) rfl awF1 3 (by decide) (wP_1_3 _ _ (kd_one12 (by omega))) tyX1 tyX1_ok nmX1 rfl (ty := .int) (by decide +kernel) rfl rfl (Nat.le_of_ble_eq_true rfl) (List.mem_of_getElem? (i := 7) rfl) rfl dX0_endOrDull_105 ?_
                refine j_aload_n X 0 rfl rfl dX0_endOrDull_108 ?_
                refine j_sipush X (v := 999) (by decide) dX0_endOrDull_109 ?_
                refine j_aload_n X 0 rfl rfl dX0_endOrDull_112 ?_
                refine j_getN X (by omega) (wE_1 _ (kd_one12 (by omega))) rfl awF1 5 (by decide) (List.mem_of_getElem? (i := 11) rfl) rfl (v := .int ((up M1 (14 + i_1) 3 (if 0 < ((M1 (14 + i_1) 3) - r_14) then ((M1 (14 + i_1) 3) - r_14) else 0)) (14 + i_1) 5)) rfl dX0_endOrDull_113 ?_
                refine j_eqi (v := M1 (14 + i_1) 5) ((up_slot _ (by decide)).trans rfl) ?_
                refine j_iconst X (v := 1) (by decide) dX0_endOrDull_116 ?_
                refine j_iadd X dX0_endOrDull_117 ?_
                refine j_mmin X aw_446 aw_202 aw_203 aw_204 (by decide) (Nat.le_of_ble_eq_true rfl) (by decide) (by decide) dX0_endOrDull_118 ?_
                refine j_putN X (up (up M1 (14 + i_1) 3 (if 0 < ((M1 (14 + i_1) 3) - r_14) then ((M1 (14 + i_1) 3) - r_14) else 0)) (14 + i_1) 5 (if ((M1 (14 + i_1) 5) + 1) < 999 then ((M1 (14 + i_1) 5) + 1) else 999)) up_o (by omega) (wE_1 _ (kd_one12 (by omega))) rfl awF1 5 (by decide) (wP_1_5 _ _ (kd_one12 (by omega))) tyX1 tyX1_ok nmX1 rfl (ty := .int) (by decide +kernel) rfl rfl (Nat.le_of_ble_eq_true rfl) (List.mem_of_getElem? (i := 11) rfl) rfl dX0_endOrDull_121 ?_
                refine j_iinc X (v := (nI (i_1 + 1))) 1 [(2, .int (nI (i_1 + 1))), (3, .ref (ad (14 + i_1))), (0, .ref (ad 12)), (1, .int b1)] rfl (show nI i_1 + Int32.ofInt 1 = _ from nI_1 i_1) (by decide) rfl dX0_endOrDull_124 ?_
                refine j_goto X 2 (by decide) dX0_endOrDull_127 ?_
                refine j_lv (lv1 := [(2, .int (nI (i_1 + 1))), (0, .ref (ad 12)), (1, .int b1)]) [0, 2, 3] rfl ?_
                exact ih1 (i_1 + 1) _ (by omega) (by omega) (sm_up (sm_up hs1 (by first | rfl | (simp; done) | (simp; omega) | (simp only [Bool.and_eq_true, Bool.or_eq_true, decide_eq_true_eq, beq_iff_eq]; omega))) (by first | rfl | (simp; done) | (simp; omega) | (simp only [Bool.and_eq_true, Bool.or_eq_true, decide_eq_true_eq, beq_iff_eq]; omega))) (sme_keep (P := (fun b k => b == 6 || b == 11 || (b == 12 && (k == 4 || k == 6 || k == 7 || k == 8)) || (decide (14 ≤ b) && decide (b ≤ 22) && (k == 3 || k == 5)))) (sme_keep (P := (fun b k => b == 6 || b == 11 || (b == 12 && (k == 4 || k == 6 || k == 7 || k == 8)) || (decide (14 ≤ b) && decide (b ≤ 22) && (k == 3 || k == 5)))) hvi_1 (sm_up sm_rf (by first | rfl | (simp; done) | (simp; omega) | (simp only [Bool.and_eq_true, Bool.or_eq_true, decide_eq_true_eq, beq_iff_eq]; omega))) (fun q hq => by first | rfl | (simp; done) | (simp; omega))) (sm_up sm_rf (by first | rfl | (simp; done) | (simp; omega) | (simp only [Bool.and_eq_true, Bool.or_eq_true, decide_eq_true_eq, beq_iff_eq]; omega))) (fun q hq => by first | rfl | (simp; done) | (simp; omega)))
              · have qc_13 := ti_ne (n := 0) (by decide) c_13
                refine j_aload_n X 2 rfl rfl dX0_endOrDull_58 ?_
                refine j_ldc X (v := 99999) aw_447 dX0_endOrDull_59 ?_
                refine j_aload_n X 2 rfl rfl dX0_endOrDull_61 ?_
                refine j_get X (by decide) (wE_0 _ rfl) rfl awF0 7 (by decide) aw_125 rfl (v := .int (M1 12 7)) rfl dX0_endOrDull_62 ?_
                refine j_aload_n X 2 rfl rfl dX0_endOrDull_65 ?_
                refine j_get X (by decide) (wE_0 _ rfl) rfl awF0 1 (by decide) aw_63 rfl (v := .ref (ad 7)) rfl dX0_endOrDull_66 ?_
                refine j_aload_n X 0 rfl rfl dX0_endOrDull_69 ?_
                refine j_getN X (by omega) (wE_1 _ (kd_one12 (by omega))) rfl awF1 3 (by decide) (List.mem_of_getElem? (i := 7) rfl) rfl (v := .int (M1 (14 + i_1) 3)) rfl dX0_endOrDull_70 ?_
                refine j_aload_n X 0 rfl rfl dX0_endOrDull_73 ?_
                refine j_getN X (by omega) (wE_1 _ (kd_one12 (by omega))) rfl awF1 5 (by decide) (List.mem_of_getElem? (i := 11) rfl) rfl (v := .int (M1 (14 + i_1) 5)) rfl dX0_endOrDull_74 ?_
                refine j_aload_n X 0 rfl rfl dX0_endOrDull_77 ?_
                refine j_getN X (by omega) (wE_1 _ (kd_one12 (by omega))) rfl awF1 1 (by decide) (List.mem_of_getElem? (i := 3) rfl) rfl (v := .int (M1 (14 + i_1) 1)) rfl dX0_endOrDull_78 ?_
                refine j_callVNI X (nn := 3) (As := [.int (M1 (14 + i_1) 3), .int (M1 (14 + i_1) 5), .int (M1 (14 + i_1) 1)]) (st := [.int (M1 12 7), .int 99999, .ref (ad 12)]) (ci := 4) (by decide) (wE_4 _ rfl) rfl aw_198 aw_199 (g_gives_7 l D y ad M1 z7 (TextOK_keep (P := (fun b k => b == 6 || b == 11 || (b == 12 && (k == 4 || k == 6 || k == 7 || k == 8)) || (decide (14 ≤ b) && decide (b ≤ 22) && (k == 3 || k == 5 || k == 6)))) (sm_tr sm_rf (sm_w hs1 (by intro b k hb; first | rfl | exact hb | (simp only [Bool.or_eq_false_iff, Bool.and_eq_false_iff, beq_eq_false_iff_ne, ne_eq, decide_eq_false_iff_not] at hb ⊢; omega)))) (fun _ => rfl) (fun _ => rfl) (fun _ => rfl) (fun _ => rfl) hT7) (M1 (14 + i_1) 3) (M1 (14 + i_1) 5) (M1 (14 + i_1) 1)) (List.mem_of_getElem? (i := 14) rfl) aw_200 aw_41 (by decide +kernel) ⟨by decide, by decide⟩ rfl (Nat.le_of_ble_eq_true rfl) ⟨by decide, by decide⟩ dX0_endOrDull_81 ?_
                rintro r_16 M_17 s_15
                refine j_iadd X dX0_endOrDull_84 ?_
                refine j_mmin X aw_446 aw_202 aw_203 aw_204 (by decide) (Nat.le_of_ble_eq_true rfl) (by decide) (by decide) dX0_endOrDull_85 ?_
                refine j_put X (up M_17 12 7 (if ((M1 12 7) + r_16) < 99999 then ((M1 12 7) + r_16) else 99999)) up_o (by decide) (wE_0 _ rfl) rfl awF0 7 (by decide) (wP_0_7 _ _ rfl) tyX0 tyX0_ok nmX0 rfl (ty := .int) (by decide +kernel) rfl rfl (Nat.le_of_ble_eq_true rfl) aw_125 rfl dX0_endOrDull_88 ?_
                refine j_aload_n X 0 rfl rfl dX0_endOrDull_91 ?_
                refine j_iconst X (v := 0) (by decide) dX0_endOrDull_92 ?_
                refine j_aload_n X 0 rfl rfl dX0_endOrDull_93 ?_
                refine j_getN X (by omega) (wE_1 _ (kd_one12 (by omega))) rfl awF1 3 (by decide) (List.mem_of_getElem? (i := 7) rfl) rfl (v := .int ((up M_17 12 7 (if ((M1 12 7) + r_16) < 99999 then ((M1 12 7) + r_16) else 99999)) (14 + i_1) 3)) rfl dX0_endOrDull_94 ?_
                refine j_eqi (v := M_17 (14 + i_1) 3) ((up_cell (by omega)).trans rfl) ?_
                refine j_aload_n X 0 rfl rfl dX0_endOrDull_97 ?_
                refine j_callVNI X (nn := 0) (As := []) (st := [.int (M_17 (14 + i_1) 3), .int 0, .ref (ad (14 + i_1))]) (ci := 1) (by omega) (wE_1 _ (kd_one12 (by omega))) rfl aw_223 aw_224 (g_dulls l D y ad (up M_17 12 7 (if ((M1 12 7) + r_16) < 99999 then ((M1 12 7) + r_16) else 99999)) (14 + i_1) (by omega) (kd_one12 (by omega))) (List.mem_of_getElem? (i := 30) rfl) aw_225 aw_65 (by decide +kernel) ⟨by decide, by decide⟩ rfl (Nat.le_of_ble_eq_true rfl) ⟨by decide, by decide⟩ dX0_endOrDull_98 ?_
                rintro r_18 M1_ rfl
                refine j_isub X dX0_endOrDull_101 ?_
                refine j_mmax X aw_457 aw_206 aw_203 aw_207 (by decide) (Nat.le_of_ble_eq_true rfl) (by decide) (by decide) dX0_endOrDull_102 ?_
                refine j_putN X (up (up M_17 12 7 (if ((M1 12 7) + r_16) < 99999 then ((M1 12 7) + r_16) else 99999)) (14 + i_1) 3 (if 0 < ((M_17 (14 + i_1) 3) - r_18) then ((M_17 (14 + i_1) 3) - r_18) else 0)) up_o (by omega) (wE_1 _ (kd_one12 (by omega))) rfl awF1 3 (by decide) (wP_1_3 _ _ (kd_one12 (by omega))) tyX1 tyX1_ok nmX1 rfl (ty := .int) (by decide +kernel) rfl rfl (Nat.le_of_ble_eq_true rfl) (List.mem_of_getElem? (i := 7) rfl) rfl dX0_endOrDull_105 ?_
                refine j_aload_n X 0 rfl rfl dX0_endOrDull_108 ?_
                refine j_sipush X (v := 999) (by decide) dX0_endOrDull_109 ?_
                refine j_aload_n X 0 rfl rfl dX0_endOrDull_112 ?_
                refine j_getN X (by omega) (wE_1 _ (kd_one12 (by omega))) rfl awF1 5 (by decide) (List.mem_of_getElem? (i := 11) rfl) rfl (v := .int ((up (up M_17 12 7 (if ((M1 12 7) + r_16) < 99999 then ((M1 12 7) + r_16) else 99999)) (14 + i_1) 3 (if 0 < ((M_17 (14 + i_1) 3) - r_18) then ((M_17 (14 + i_1) 3) - r_18) else 0)) (14 + i_1) 5)) rfl dX0_endOrDull_113 ?_
                refine j_eqi (v := M_17 (14 + i_1) 5) ((up_slot _ (by decide)).trans ((up_cell (by omega)).trans rfl)) ?_
                refine j_iconst X (v := 1) (by decide) dX0_endOrDull_116 ?_
                refine j_iadd X dX0_endOrDull_117 ?_
                refine j_mmin X aw_446 aw_202 aw_203 aw_204 (by decide) (Nat.le_of_ble_eq_true rfl) (by decide) (by decide) dX0_endOrDull_118 ?_
                refine j_putN X (up (up (up M_17 12 7 (if ((M1 12 7) + r_16) < 99999 then ((M1 12 7) + r_16) else 99999)) (14 + i_1) 3 (if 0 < ((M_17 (14 + i_1) 3) - r_18) then ((M_17 (14 + i_1) 3) - r_18) else 0)) (14 + i_1) 5 (if ((M_17 (14 + i_1) 5) + 1) < 999 then ((M_17 (14 + i_1) 5) + 1) else 999)) up_o (by omega) (wE_1 _ (kd_one12 (by omega))) rfl awF1 5 (by decide) (wP_1_5 _ _ (kd_one12 (by omega))) tyX1 tyX1_ok nmX1 rfl (ty := .int) (by decide +kernel) rfl rfl (Nat.le_of_ble_eq_true rfl) (List.mem_of_getElem? (i := 11) rfl) rfl dX0_endOrDull_121 ?_
                refine j_iinc X (v := (nI (i_1 + 1))) 1 [(2, .int (nI (i_1 + 1))), (3, .ref (ad (14 + i_1))), (0, .ref (ad 12)), (1, .int b1)] rfl (show nI i_1 + Int32.ofInt 1 = _ from nI_1 i_1) (by decide) rfl dX0_endOrDull_124 ?_
                refine j_goto X 2 (by decide) dX0_endOrDull_127 ?_
                refine j_lv (lv1 := [(2, .int (nI (i_1 + 1))), (0, .ref (ad 12)), (1, .int b1)]) [0, 2, 3] rfl ?_
                exact ih1 (i_1 + 1) _ (by omega) (by omega) (sm_up (sm_up (sm_up (sm_tr hs1 (sm_w s_15 (by intro b k hb; first | rfl | exact hb | (simp only [Bool.or_eq_false_iff, Bool.and_eq_false_iff, beq_eq_false_iff_ne, ne_eq, decide_eq_false_iff_not] at hb ⊢; omega)))) rfl) (by first | rfl | (simp; done) | (simp; omega) | (simp only [Bool.and_eq_true, Bool.or_eq_true, decide_eq_true_eq, beq_iff_eq]; omega))) (by first | rfl | (simp; done) | (simp; omega) | (simp only [Bool.and_eq_true, Bool.or_eq_true, decide_eq_true_eq, beq_iff_eq]; omega))) (sme_keep (P := (fun b k => b == 6 || b == 11 || (b == 12 && (k == 4 || k == 6 || k == 7 || k == 8)) || (decide (14 ≤ b) && decide (b ≤ 22) && (k == 3 || k == 5)))) (sme_keep (P := (fun b k => b == 6 || b == 11 || (b == 12 && (k == 4 || k == 6 || k == 7 || k == 8)) || (decide (14 ≤ b) && decide (b ≤ 22) && (k == 3 || k == 5)))) (sme_keep (P := (fun b k => b == 6 || b == 11 || (b == 12 && (k == 4 || k == 6 || k == 7 || k == 8)) || (decide (14 ≤ b) && decide (b ≤ 22) && (k == 3 || k == 5)))) (sme_keep hvi_1 s_15 (fun q hq => by first | rfl | (simp; done) | (simp; omega))) (sm_up sm_rf (by first | rfl | (simp; done) | (simp; omega) | (simp only [Bool.and_eq_true, Bool.or_eq_true, decide_eq_true_eq, beq_iff_eq]; omega))) (fun q hq => by first | rfl | (simp; done) | (simp; omega))) (sm_up sm_rf (by first | rfl | (simp; done) | (simp; omega) | (simp only [Bool.and_eq_true, Bool.or_eq_true, decide_eq_true_eq, beq_iff_eq]; omega))) (fun q hq => by first | rfl | (simp; done) | (simp; omega))) (sm_up sm_rf (by first | rfl | (simp; done) | (simp; omega) | (simp only [Bool.and_eq_true, Bool.or_eq_true, decide_eq_true_eq, beq_iff_eq]; omega))) (fun q hq => by first | rfl | (simp; done) | (simp; omega)))
            · refine j_if_eq X 54 (by decide) dX0_endOrDull_43 (fun c_19 => False.elim (by revert c_19; decide)) (fun c_19 => ?_)
              refine j_aload_n X 0 rfl rfl dX0_endOrDull_46 ?_
              refine j_iconst X (v := 1) (by decide) dX0_endOrDull_47 ?_
              refine j_putN X (up M1 (14 + i_1) 6 1) up_o (by omega) (wE_1 _ (kd_one12 (by omega))) rfl awF1 6 (by decide) (wP_1_6 _ _ (kd_one12 (by omega))) tyX1 tyX1_ok nmX1 rfl (ty := .boolean) (by decide +kernel) rfl rfl (Nat.le_of_ble_eq_true rfl) (List.mem_of_getElem? (i := 13) rfl) rfl dX0_endOrDull_48 ?_
              refine j_goto X 124 (by decide) dX0_endOrDull_51 ?_
              refine j_iinc X (v := (nI (i_1 + 1))) 1 [(2, .int (nI (i_1 + 1))), (3, .ref (ad (14 + i_1))), (0, .ref (ad 12)), (1, .int b1)] rfl (show nI i_1 + Int32.ofInt 1 = _ from nI_1 i_1) (by decide) rfl dX0_endOrDull_124 ?_
              refine j_goto X 2 (by decide) dX0_endOrDull_127 ?_
              refine j_lv (lv1 := [(2, .int (nI (i_1 + 1))), (0, .ref (ad 12)), (1, .int b1)]) [0, 2, 3] rfl ?_
              exact ih1 (i_1 + 1) _ (by omega) (by omega) (sm_up hs1 (by first | rfl | (simp; done) | (simp; omega) | (simp only [Bool.and_eq_true, Bool.or_eq_true, decide_eq_true_eq, beq_iff_eq]; omega))) (sme_set hvi_1)
        · have qc_3 := ti_ne (n := 0) (by decide) c_3
          refine j_goto X 124 (by decide) dX0_endOrDull_24 ?_
          refine j_iinc X (v := (nI (i_1 + 1))) 1 [(2, .int (nI (i_1 + 1))), (3, .ref (ad (14 + i_1))), (0, .ref (ad 12)), (1, .int b1)] rfl (show nI i_1 + Int32.ofInt 1 = _ from nI_1 i_1) (by decide) rfl dX0_endOrDull_124 ?_
          refine j_goto X 2 (by decide) dX0_endOrDull_127 ?_
          refine j_lv (lv1 := [(2, .int (nI (i_1 + 1))), (0, .ref (ad 12)), (1, .int b1)]) [0, 2, 3] rfl ?_
          exact ih1 (i_1 + 1) _ (by omega) (by omega) hs1 hvi_1
  refine j_lv (lv1 := [(2, .int (nI 0)), (0, .ref (ad 12)), (1, .int b1)]) [0, 1, 2] rfl ?_
  exact loop1 (n + 1) 0 _ (by omega) (by omega) sm_rf sme_rf
set_option maxRecDepth 100000 in
set_option maxHeartbeats 4000000 in
theorem g_restDay_12 (l : Launch) (D : va_G) (y : wY) (ad : Nat → Nat) (M : Mem) (n : Nat) (hn : n ≤ 9) (hm : M 12 3 = nI n) (z2 z7 : Nat) (hT2 : TextOK M 2 z2) (hT7 : TextOK M 7 z7) (b1 : Int32) : MV l D y ad yX0_restDay (Cond.code yX0_restDay cX0_restDay 2 none) 5 M [.ref (ad 12), .int b1] (fun M' => sm (fun b k => b == 6 || b == 11 || (b == 12 && (k == 4 || k == 6 || k == 7 || k == 8)) || (decide (14 ≤ b) && decide (b ≤ 22) && (k == 3 || k == 5 || k == 6))) M M' ∧ sme 14 M M') := by
  refine MV_of (by decide) (Nat.le_of_ble_eq_true rfl) ?_
  intro p e s m args below meth c X hr hlocks
  refine j_lv (lv1 := [(0, .ref (ad 12)), (1, .int b1)]) [0, 1] rfl ?_
  refine j_aload_n X 0 rfl rfl dX0_restDay_0 ?_
  refine j_iload_n X 1 rfl rfl dX0_restDay_1 ?_
  refine j_callVV X (nn := 1) (As := [.int b1]) (st := []) (ci := 0) (by decide) (wE_0 _ rfl) rfl aw_454 aw_455 (g_endOrDull_12 l D y ad M n (by omega) hm z2 z7 hT2 hT7 b1) aw_453 aw_456 aw_20 (by decide +kernel) ⟨by decide, by decide⟩ rfl (Nat.le_of_ble_eq_true rfl) ⟨by decide, by decide⟩ dX0_restDay_2 ?_
  rintro M_2 ⟨s_1, s_1_e⟩
  refine j_aload_n X 0 rfl rfl dX0_restDay_5 ?_
  refine j_aload_n X 0 rfl rfl dX0_restDay_6 ?_
  refine j_get X (by decide) (wE_0 _ rfl) rfl awF0 4 (by decide) aw_124 rfl (v := .int (M_2 12 4)) rfl dX0_restDay_7 ?_
  refine j_aload_n X 0 rfl rfl dX0_restDay_10 ?_
  refine j_get X (by decide) (wE_0 _ rfl) rfl awF0 5 (by decide) aw_61 rfl (v := .int (M_2 12 5)) rfl dX0_restDay_11 ?_
  refine j_iadd X dX0_restDay_14 ?_
  refine j_bipush X (v := 10) (by decide) dX0_restDay_15 ?_
  refine j_irem X (by decide) dX0_restDay_17 ?_
  refine j_put X (up M_2 12 4 (((M_2 12 4) + (M_2 12 5)) - ((M_2 12 4) + (M_2 12 5)) / 10 * 10)) up_o (by decide) (wE_0 _ rfl) rfl awF0 4 (by decide) (wP_0_4 _ _ rfl) tyX0 tyX0_ok nmX0 rfl (ty := .int) (by decide +kernel) rfl rfl (Nat.le_of_ble_eq_true rfl) aw_124 rfl dX0_restDay_18 ?_
  refine j_aload_n X 0 rfl rfl dX0_restDay_21 ?_
  refine j_dup X rfl dX0_restDay_22 ?_
  refine j_get X (by decide) (wE_0 _ rfl) rfl awF0 6 (by decide) aw_197 rfl (v := .int ((up M_2 12 4 (((M_2 12 4) + (M_2 12 5)) - ((M_2 12 4) + (M_2 12 5)) / 10 * 10)) 12 6)) rfl dX0_restDay_23 ?_
  refine j_eqi (v := M_2 12 6) ((up_slot _ (by decide)).trans rfl) ?_
  refine j_iconst X (v := 1) (by decide) dX0_restDay_26 ?_
  refine j_iadd X dX0_restDay_27 ?_
  refine j_put X (up (up M_2 12 4 (((M_2 12 4) + (M_2 12 5)) - ((M_2 12 4) + (M_2 12 5)) / 10 * 10)) 12 6 ((M_2 12 6) + 1)) up_o (by decide) (wE_0 _ rfl) rfl awF0 6 (by decide) (wP_0_6 _ _ rfl) tyX0 tyX0_ok nmX0 rfl (ty := .int) (by decide +kernel) rfl rfl (Nat.le_of_ble_eq_true rfl) aw_197 rfl dX0_restDay_28 ?_
  exact j_vret X hr hlocks dX0_restDay_31 ⟨(sm_up (sm_up (sm_tr sm_rf (sm_w s_1 (by intro b k hb; first | rfl | exact hb | (simp only [Bool.or_eq_false_iff, Bool.and_eq_false_iff, beq_eq_false_iff_ne, ne_eq, decide_eq_false_iff_not] at hb ⊢; omega)))) rfl) rfl), (sme_keep (P := (fun b k => b == 6 || b == 11 || (b == 12 && (k == 4 || k == 6 || k == 7 || k == 8)) || (decide (14 ≤ b) && decide (b ≤ 22) && (k == 3 || k == 5)))) (sme_keep (P := (fun b k => b == 6 || b == 11 || (b == 12 && (k == 4 || k == 6 || k == 7 || k == 8)) || (decide (14 ≤ b) && decide (b ≤ 22) && (k == 3 || k == 5)))) (sme_tr sme_rf s_1_e) (sm_up sm_rf (by first | rfl | (simp; done) | (simp; omega) | (simp only [Bool.and_eq_true, Bool.or_eq_true, decide_eq_true_eq, beq_iff_eq]; omega))) (fun q hq => by first | rfl | (simp; done) | (simp; omega))) (sm_up sm_rf (by first | rfl | (simp; done) | (simp; omega) | (simp only [Bool.and_eq_true, Bool.or_eq_true, decide_eq_true_eq, beq_iff_eq]; omega))) (fun q hq => by first | rfl | (simp; done) | (simp; omega)))⟩
set_option maxRecDepth 100000 in
set_option maxHeartbeats 4000000 in
theorem g_passDay_12 (l : Launch) (D : va_G) (y : wY) (ad : Nat → Nat) (M : Mem) (n : Nat) (hn : n ≤ 9) (hm : M 12 3 = nI n) (z2 z7 : Nat) (hT2 : TextOK M 2 z2) (hT7 : TextOK M 7 z7) (b1 : Int32) : MV l D y ad yX0_passDay (Cond.code yX0_passDay cX0_passDay 2 none) 6 M [.ref (ad 12), .int b1] (fun M' => sm (fun b k => b == 6 || b == 11 || (b == 12 && (k == 4 || k == 6 || k == 7 || k == 8)) || (decide (14 ≤ b) && decide (b ≤ 22) && (k == 3 || k == 5 || k == 6))) M M' ∧ sme 14 M M') := by
  refine MV_of (by decide) (Nat.le_of_ble_eq_true rfl) ?_
  intro p e s m args below meth c X hr hlocks
  refine j_lv (lv1 := [(0, .ref (ad 12)), (1, .int b1)]) [0, 1] rfl ?_
  refine j_aload_n X 0 rfl rfl dX0_passDay_0 ?_
  refine j_callVV X (nn := 0) (As := []) (st := []) (ci := 0) (by decide) (wE_0 _ rfl) rfl aw_443 aw_444 (g_grindArea_12 l D y ad M n (by omega) hm z2 z7 hT2 hT7) aw_442 aw_445 aw_20 (by decide +kernel) ⟨by decide, by decide⟩ rfl (Nat.le_of_ble_eq_true rfl) ⟨by decide, by decide⟩ dX0_passDay_1 ?_
  rintro M_2 s_1
  refine j_aload_n X 0 rfl rfl dX0_passDay_4 ?_
  refine j_iload_n X 1 rfl rfl dX0_passDay_5 ?_
  refine j_callVV X (nn := 1) (As := [.int b1]) (st := []) (ci := 0) (by decide) (wE_0 _ rfl) rfl aw_450 aw_451 (g_restDay_12 l D y ad M_2 n (by omega) ((s_1 12 3 rfl).trans hm) z2 z7 (TextOK_keep (P := (fun b k => b == 6 || b == 11 || (b == 12 && (k == 4 || k == 6 || k == 7 || k == 8)) || (decide (14 ≤ b) && decide (b ≤ 22) && (k == 3 || k == 5 || k == 6)))) (sm_tr sm_rf (sm_w s_1 (by intro b k hb; first | rfl | exact hb | (simp only [Bool.or_eq_false_iff, Bool.and_eq_false_iff, beq_eq_false_iff_ne, ne_eq, decide_eq_false_iff_not] at hb ⊢; omega)))) (fun _ => rfl) (fun _ => rfl) (fun _ => rfl) (fun _ => rfl) hT2) (TextOK_keep (P := (fun b k => b == 6 || b == 11 || (b == 12 && (k == 4 || k == 6 || k == 7 || k == 8)) || (decide (14 ≤ b) && decide (b ≤ 22) && (k == 3 || k == 5 || k == 6)))) (sm_tr sm_rf (sm_w s_1 (by intro b k hb; first | rfl | exact hb | (simp only [Bool.or_eq_false_iff, Bool.and_eq_false_iff, beq_eq_false_iff_ne, ne_eq, decide_eq_false_iff_not] at hb ⊢; omega)))) (fun _ => rfl) (fun _ => rfl) (fun _ => rfl) (fun _ => rfl) hT7) b1) aw_449 aw_452 aw_20 (by decide +kernel) ⟨by decide, by decide⟩ rfl (Nat.le_of_ble_eq_true rfl) ⟨by decide, by decide⟩ dX0_passDay_6 ?_
  rintro M_4 ⟨s_3, s_3_e⟩
  exact j_vret X hr hlocks dX0_passDay_9 ⟨(sm_tr (sm_tr sm_rf (sm_w s_1 (by intro b k hb; first | rfl | exact hb | (simp only [Bool.or_eq_false_iff, Bool.and_eq_false_iff, beq_eq_false_iff_ne, ne_eq, decide_eq_false_iff_not] at hb ⊢; omega)))) (sm_w s_3 (by intro b k hb; first | rfl | exact hb | (simp only [Bool.or_eq_false_iff, Bool.and_eq_false_iff, beq_eq_false_iff_ne, ne_eq, decide_eq_false_iff_not] at hb ⊢; omega)))), (sme_tr (sme_keep sme_rf s_1 (fun q hq => by first | rfl | (simp; done) | (simp; omega))) s_3_e)⟩
set_option maxRecDepth 100000 in
set_option maxHeartbeats 4000000 in
theorem g_isFree_49 (l : Launch) (D : va_G) (y : wY) (ad : Nat → Nat) (M : Mem) (n : Nat) (hn : n ≤ 9) (hm : M 49 3 = nI n) (q : Nat) (hq : q < 9) : MI l D y ad yX0_isFree (Cond.code yX0_isFree cX0_isFree 2 (some .boolean)) 1 M [.ref (ad 49), .ref (ad (51 + q))] (fun r M' => (0 = r ∧ M = M') ∨ (1 = r ∧ M = M')) := by
  refine MI_of (by decide) (Nat.le_of_ble_eq_true rfl) ?_
  intro p e s m args below meth c X hr hlocks
  refine j_lv (lv1 := [(0, .ref (ad 49)), (1, .ref (ad (51 + q)))]) [0, 1] rfl ?_
  refine j_aload_n X 1 rfl rfl dX0_isFree_0 ?_
  refine j_getN X (by omega) (wE_1 _ (kd_one49 (by omega))) rfl awF1 4 (by decide) (List.mem_of_getElem? (i := 9) rfl) rfl (v := .int (M (51 + q) 4)) rfl dX0_isFree_1 ?_
  refine j_iconst X (v := 0) (by decide) dX0_isFree_4 ?_
  refine j_aload_n X 0 rfl rfl dX0_isFree_5 ?_
  refine j_get X (by decide) (wE_0 _ rfl) rfl awF0 3 (by decide) aw_155 rfl (v := .int (M 49 3)) rfl dX0_isFree_6 ?_
  refine j_eqi (v := (nI n)) hm ?_
  refine j_iconst X (v := 1) (by decide) dX0_isFree_9 ?_
  refine j_isub X dX0_isFree_10 ?_
  refine j_callSNI X (nn := 3) (As := [.int (M (51 + q) 4), .int 0, .int ((nI n) - 1)]) (st := []) aw_110 (g_X7_isWithin l D y ad M (M (51 + q) 4) 0 ((nI n) - 1) 0 (((n : Nat) : Int) - 1) (by decide) (nI_m1 (by omega))) (List.mem_of_getElem? (i := 29) rfl) aw_111 aw_2 (by decide +kernel) ⟨by decide, by decide⟩ rfl (Nat.le_of_ble_eq_true rfl) ⟨by decide, by decide⟩ dX0_isFree_11 ?_
  rintro r_ M1_ (⟨rfl, rfl, h_1⟩ | ⟨rfl, rfl, h_1⟩)
  · refine j_if_eq X 32 (by decide) dX0_isFree_14 (fun c_2 => False.elim (by revert c_2; decide)) (fun c_2 => ?_)
    refine j_aload_n X 0 rfl rfl dX0_isFree_17 ?_
    refine j_get X (by decide) (wE_0 _ rfl) rfl awF0 2 (by decide) aw_60 rfl (v := .ref (ad 50)) rfl dX0_isFree_18 ?_
    refine j_aload_n X 1 rfl rfl dX0_isFree_21 ?_
    refine j_getN X (by omega) (wE_1 _ (kd_one49 (by omega))) rfl awF1 4 (by decide) (List.mem_of_getElem? (i := 9) rfl) rfl (v := .int (M (51 + q) 4)) rfl dX0_isFree_22 ?_
    obtain ⟨j_3, hj_3, ej_3⟩ := nI_oft (x := (M (51 + q) 4)) (n := 8) (by omega) (by omega) (by decide)
    refine j_eqi (v := nI j_3) ej_3 ?_
    refine j_aald10 X (by decide) rfl (show vp_in (nI j_3) 9 from vp_in_nI (by omega) (by decide)) dX0_isFree_25 ?_
    refine j_eqr (v := 51 + j_3) (by rw [nI_clamp (by omega)]; exact rf_one49 (by omega)) ?_
    refine j_getN X (by omega) (wE_1 _ (kd_one49 (by omega))) rfl awF1 6 (by decide) (List.mem_of_getElem? (i := 13) rfl) rfl (v := .int (M (51 + j_3) 6)) rfl dX0_isFree_26 ?_
    refine j_if_eq X 36 (by decide) dX0_isFree_29 (fun c_4 => ?_) (fun c_4 => ?_)
    · have qc_4 := ti_eq (n := 0) (by decide) c_4
      refine j_iconst X (v := 0) (by decide) dX0_isFree_36 ?_
      exact j_zret X hr hlocks (Or.inl rfl) dX0_isFree_37 (Or.inl ⟨rfl, rfl⟩)
    · have qc_4 := ti_ne (n := 0) (by decide) c_4
      refine j_iconst X (v := 1) (by decide) dX0_isFree_32 ?_
      refine j_goto X 37 (by decide) dX0_isFree_33 ?_
      exact j_zret X hr hlocks (Or.inr rfl) dX0_isFree_37 (Or.inr ⟨rfl, rfl⟩)
  · refine j_if_eq X 32 (by decide) dX0_isFree_14 (fun c_5 => ?_) (fun c_5 => False.elim (by revert c_5; decide))
    refine j_iconst X (v := 1) (by decide) dX0_isFree_32 ?_
    refine j_goto X 37 (by decide) dX0_isFree_33 ?_
    exact j_zret X hr hlocks (Or.inr rfl) dX0_isFree_37 (Or.inr ⟨rfl, rfl⟩)
set_option maxRecDepth 100000 in
set_option maxHeartbeats 4000000 in
theorem g_grindArea_49 (l : Launch) (D : va_G) (y : wY) (ad : Nat → Nat) (M : Mem) (n : Nat) (hn : n ≤ 9) (hm : M 49 3 = nI n) (z2 z7 : Nat) (hT2 : TextOK M 2 z2) (hT7 : TextOK M 7 z7) : MV l D y ad yX0_grindArea (Cond.code yX0_grindArea cX0_grindArea 3 none) 4 M [.ref (ad 49)] (fun M' => sm (fun b k => b == 6 || b == 11 || (b == 49 && (k == 4 || k == 6 || k == 7 || k == 8)) || (decide (51 ≤ b) && decide (b ≤ 59) && (k == 3 || k == 5))) M M') := by
  refine MV_of (by decide) (Nat.le_of_ble_eq_true rfl) ?_
  intro p e s m args below meth c X hr hlocks
  refine j_lv (lv1 := [(0, .ref (ad 49))]) [0] rfl ?_
  refine j_iconst X (v := 0) (by decide) dX0_grindArea_0 ?_
  refine j_istore_n X [(1, .int 0), (0, .ref (ad 49))] rfl (by decide) rfl dX0_grindArea_1 ?_
  have loop1 : ∀ (n_1 i_1 : Nat) (M1 : Mem), i_1 ≤ n → n - i_1 < n_1 → sm (fun b k => b == 6 || b == 11 || (b == 49 && (k == 4 || k == 6 || k == 7 || k == 8)) || (decide (51 ≤ b) && decide (b ≤ 59) && (k == 3 || k == 5))) M M1 → J p l e (rmN 4) s m args below meth c 0 0 (QV (fun M' => sm (fun b k => b == 6 || b == 11 || (b == 49 && (k == 4 || k == 6 || k == 7 || k == 8)) || (decide (51 ≤ b) && decide (b ≤ 59) && (k == 3 || k == 5))) M M') D y ad M s args below) D y ad (va_A (PL y ad M) s.heap.size) 3 M1 2 [(1, .int (nI i_1)), (0, .ref (ad 49))] [] := by
    intro n_1
    induction n_1 with
    | zero => intro i_1 M1 h1 h2; exact absurd h2 (by omega)
    | succ n_1 ih1 =>
      intro i_1 M1 h1i_1 h2i_1 hs1
      refine j_iload_n X 0 rfl rfl dX0_grindArea_2 ?_
      refine j_aload_n X 1 rfl rfl dX0_grindArea_3 ?_
      refine j_get X (by decide) (wE_0 _ rfl) rfl awF0 3 (by decide) aw_155 rfl (v := .int (M1 49 3)) rfl dX0_grindArea_4 ?_
      refine j_eqi (v := (nI n)) ((hs1 49 3 rfl).trans hm) ?_
      refine j_icmp_ge X 75 (by decide) dX0_grindArea_7 (fun c_2 => ?_) (fun c_2 => ?_)
      · have c_2 := (nI_leI (by omega) (by omega)).mp (show nI (n) ≤ nI i_1 from c_2)
        exact j_vret X hr hlocks dX0_grindArea_75 (sm_tr sm_rf (sm_w hs1 (by intro b k hb; first | rfl | exact hb | (simp only [Bool.or_eq_false_iff, Bool.and_eq_false_iff, beq_eq_false_iff_ne, ne_eq, decide_eq_false_iff_not] at hb ⊢; omega))))
      · have c_2 : i_1 < n := by
          rcases Nat.lt_or_ge i_1 (n) with g | g
          · exact g
          · exact absurd (show nI (n) ≤ nI i_1 from nI_le g (by omega)) c_2
        refine j_aload_n X 1 rfl rfl dX0_grindArea_10 ?_
        refine j_get X (by decide) (wE_0 _ rfl) rfl awF0 2 (by decide) aw_60 rfl (v := .ref (ad 50)) rfl dX0_grindArea_11 ?_
        refine j_iload_n X 0 rfl rfl dX0_grindArea_14 ?_
        refine j_aald10 X (by decide) rfl (show vp_in (nI i_1) 9 from vp_in_nI (by omega) (by decide)) dX0_grindArea_15 ?_
        refine j_eqr (v := 51 + i_1) (by rw [nI_clamp (by omega)]; exact rf_one49 (by omega)) ?_
        refine j_astore_n X [(2, .ref (ad (51 + i_1))), (1, .int (nI i_1)), (0, .ref (ad 49))] rfl (by decide) rfl dX0_grindArea_16 ?_
        refine j_aload_n X 0 rfl rfl dX0_grindArea_17 ?_
        refine j_getN X (by omega) (wE_1 _ (kd_one49 (by omega))) rfl awF1 2 (by decide) (List.mem_of_getElem? (i := 5) rfl) rfl (v := .int (M1 (51 + i_1) 2)) rfl dX0_grindArea_18 ?_
        refine j_aload_n X 2 rfl rfl dX0_grindArea_21 ?_
        refine j_get X (by decide) (wE_0 _ rfl) rfl awF0 4 (by decide) aw_124 rfl (v := .int (M1 49 4)) rfl dX0_grindArea_22 ?_
        refine j_icmp_ne X 69 (by decide) dX0_grindArea_25 (fun c_3 => ?_) (fun c_3 => ?_)
        · refine j_iinc X (v := (nI (i_1 + 1))) 1 [(1, .int (nI (i_1 + 1))), (2, .ref (ad (51 + i_1))), (0, .ref (ad 49))] rfl (show nI i_1 + Int32.ofInt 1 = _ from nI_1 i_1) (by decide) rfl dX0_grindArea_69 ?_
          refine j_goto X 2 (by decide) dX0_grindArea_72 ?_
          refine j_lv (lv1 := [(1, .int (nI (i_1 + 1))), (0, .ref (ad 49))]) [0, 2] rfl ?_
          exact ih1 (i_1 + 1) _ (by omega) (by omega) hs1
        · refine j_aload_n X 0 rfl rfl dX0_grindArea_28 ?_
          refine j_getN X (by omega) (wE_1 _ (kd_one49 (by omega))) rfl awF1 6 (by decide) (List.mem_of_getElem? (i := 13) rfl) rfl (v := .int (M1 (51 + i_1) 6)) rfl dX0_grindArea_29 ?_
          refine j_if_ne X 69 (by decide) dX0_grindArea_32 (fun c_4 => ?_) (fun c_4 => ?_)
          · have qc_4 := ti_ne (n := 0) (by decide) c_4
            refine j_iinc X (v := (nI (i_1 + 1))) 1 [(1, .int (nI (i_1 + 1))), (2, .ref (ad (51 + i_1))), (0, .ref (ad 49))] rfl (show nI i_1 + Int32.ofInt 1 = _ from nI_1 i_1) (by decide) rfl dX0_grindArea_69 ?_
            refine j_goto X 2 (by decide) dX0_grindArea_72 ?_
            refine j_lv (lv1 := [(1, .int (nI (i_1 + 1))), (0, .ref (ad 49))]) [0, 2] rfl ?_
            exact ih1 (i_1 + 1) _ (by omega) (by omega) hs1
          · have qc_4 := ti_eq (n := 0) (by decide) c_4
            refine j_aload_n X 0 rfl rfl dX0_grindArea_35 ?_
            refine j_bipush X (v := 99) (by decide) dX0_grindArea_36 ?_
            refine j_aload_n X 0 rfl rfl dX0_grindArea_38 ?_
            refine j_getN X (by omega) (wE_1 _ (kd_one49 (by omega))) rfl awF1 3 (by decide) (List.mem_of_getElem? (i := 7) rfl) rfl (v := .int (M1 (51 + i_1) 3)) rfl dX0_grindArea_39 ?_
            refine j_aload_n X 2 rfl rfl dX0_grindArea_42 ?_
            refine j_aload_n X 0 rfl rfl dX0_grindArea_43 ?_
            refine j_callVI X (nn := 1) (As := [.ref (ad (51 + i_1))]) (st := [.int (M1 (51 + i_1) 3), .int 99, .ref (ad (51 + i_1))]) (ci := 0) (by decide) (wE_0 _ rfl) rfl aw_194 aw_195 (g_gainsOf_49 l D y ad M1 z2 (TextOK_keep (P := (fun b k => b == 6 || b == 11 || (b == 49 && (k == 4 || k == 6 || k == 7 || k == 8)) || (decide (51 ≤ b) && decide (b ≤ 59) && (k == 3 || k == 5)))) (sm_tr sm_rf (sm_w hs1 (by intro b k hb; first | rfl | exact hb | (simp only [Bool.or_eq_false_iff, Bool.and_eq_false_iff, beq_eq_false_iff_ne, ne_eq, decide_eq_false_iff_not] at hb ⊢; omega)))) (fun _ => rfl) (fun _ => rfl) (fun _ => rfl) (fun _ => rfl) hT2) (51 + i_1) (by omega) (kd_one49 (by omega))) aw_448 aw_196 aw_20 (by decide +kernel) ⟨by decide, by decide⟩ rfl (Nat.le_of_ble_eq_true rfl) ⟨by decide, by decide⟩ dX0_grindArea_44 ?_
            rintro r_6 M_7 s_5
            refine j_iadd X dX0_grindArea_47 ?_
            refine j_mmin X aw_446 aw_202 aw_203 aw_204 (by decide) (Nat.le_of_ble_eq_true rfl) (by decide) (by decide) dX0_grindArea_48 ?_
            refine j_putN X (up M_7 (51 + i_1) 3 (if ((M1 (51 + i_1) 3) + r_6) < 99 then ((M1 (51 + i_1) 3) + r_6) else 99)) up_o (by omega) (wE_1 _ (kd_one49 (by omega))) rfl awF1 3 (by decide) (wP_1_3 _ _ (kd_one49 (by omega))) tyX1 tyX1_ok nmX1 rfl (ty := .int) (by decide +kernel) rfl rfl (Nat.le_of_ble_eq_true rfl) (List.mem_of_getElem? (i := 7) rfl) rfl dX0_grindArea_51 ?_
            refine j_aload_n X 2 rfl rfl dX0_grindArea_54 ?_
            refine j_ldc X (v := 99999) aw_447 dX0_grindArea_55 ?_
            refine j_aload_n X 2 rfl rfl dX0_grindArea_57 ?_
            refine j_get X (by decide) (wE_0 _ rfl) rfl awF0 8 (by decide) aw_126 rfl (v := .int ((up M_7 (51 + i_1) 3 (if ((M1 (51 + i_1) 3) + r_6) < 99 then ((M1 (51 + i_1) 3) + r_6) else 99)) 49 8)) rfl dX0_grindArea_58 ?_
            refine j_eqi (v := M_7 49 8) ((up_cell (by omega)).trans rfl) ?_
            refine j_iconst X (v := 3) (by decide) dX0_grindArea_61 ?_
            refine j_iadd X dX0_grindArea_62 ?_
            refine j_mmin X aw_446 aw_202 aw_203 aw_204 (by decide) (Nat.le_of_ble_eq_true rfl) (by decide) (by decide) dX0_grindArea_63 ?_
            refine j_put X (up (up M_7 (51 + i_1) 3 (if ((M1 (51 + i_1) 3) + r_6) < 99 then ((M1 (51 + i_1) 3) + r_6) else 99)) 49 8 (if ((M_7 49 8) + 3) < 99999 then ((M_7 49 8) + 3) else 99999)) up_o (by decide) (wE_0 _ rfl) rfl awF0 8 (by decide) (wP_0_8 _ _ rfl) tyX0 tyX0_ok nmX0 rfl (ty := .int) (by decide +kernel) rfl rfl (Nat.le_of_ble_eq_true rfl) aw_126 rfl dX0_grindArea_66 ?_
            refine j_iinc X (v := (nI (i_1 + 1))) 1 [(1, .int (nI (i_1 + 1))), (2, .ref (ad (51 + i_1))), (0, .ref (ad 49))] rfl (show nI i_1 + Int32.ofInt 1 = _ from nI_1 i_1) (by decide) rfl dX0_grindArea_69 ?_
            refine j_goto X 2 (by decide) dX0_grindArea_72 ?_
            refine j_lv (lv1 := [(1, .int (nI (i_1 + 1))), (0, .ref (ad 49))]) [0, 2] rfl ?_
            exact ih1 (i_1 + 1) _ (by omega) (by omega) (sm_up (sm_up (sm_tr hs1 (sm_w s_5 (by intro b k hb; first | rfl | exact hb | (simp only [Bool.or_eq_false_iff, Bool.and_eq_false_iff, beq_eq_false_iff_ne, ne_eq, decide_eq_false_iff_not] at hb ⊢; omega)))) (by first | rfl | (simp; done) | (simp; omega) | (simp only [Bool.and_eq_true, Bool.or_eq_true, decide_eq_true_eq, beq_iff_eq]; omega))) rfl)
  refine j_lv (lv1 := [(1, .int (nI 0)), (0, .ref (ad 49))]) [0, 1] rfl ?_
  exact loop1 (n + 1) 0 _ (by omega) (by omega) sm_rf
set_option maxRecDepth 100000 in
set_option maxHeartbeats 4000000 in
theorem g_endOrDull_49 (l : Launch) (D : va_G) (y : wY) (ad : Nat → Nat) (M : Mem) (n : Nat) (hn : n ≤ 9) (hm : M 49 3 = nI n) (z2 z7 : Nat) (hT2 : TextOK M 2 z2) (hT7 : TextOK M 7 z7) (b1 : Int32) : MV l D y ad yX0_endOrDull (Cond.code yX0_endOrDull cX0_endOrDull 4 none) 4 M [.ref (ad 49), .int b1] (fun M' => sm (fun b k => b == 6 || b == 11 || (b == 49 && (k == 4 || k == 6 || k == 7 || k == 8)) || (decide (51 ≤ b) && decide (b ≤ 59) && (k == 3 || k == 5 || k == 6))) M M' ∧ sme 51 M M') := by
  refine MV_of (by decide) (Nat.le_of_ble_eq_true rfl) ?_
  intro p e s m args below meth c X hr hlocks
  refine j_lv (lv1 := [(0, .ref (ad 49)), (1, .int b1)]) [0, 1] rfl ?_
  refine j_iconst X (v := 0) (by decide) dX0_endOrDull_0 ?_
  refine j_istore_n X [(2, .int 0), (0, .ref (ad 49)), (1, .int b1)] rfl (by decide) rfl dX0_endOrDull_1 ?_
  have loop1 : ∀ (n_1 i_1 : Nat) (M1 : Mem), i_1 ≤ n → n - i_1 < n_1 → sm (fun b k => b == 6 || b == 11 || (b == 49 && (k == 4 || k == 6 || k == 7 || k == 8)) || (decide (51 ≤ b) && decide (b ≤ 59) && (k == 3 || k == 5 || k == 6))) M M1 → (sme 51 M M1) → J p l e (rmN 4) s m args below meth c 0 0 (QV (fun M' => sm (fun b k => b == 6 || b == 11 || (b == 49 && (k == 4 || k == 6 || k == 7 || k == 8)) || (decide (51 ≤ b) && decide (b ≤ 59) && (k == 3 || k == 5 || k == 6))) M M' ∧ sme 51 M M') D y ad M s args below) D y ad (va_A (PL y ad M) s.heap.size) 4 M1 2 [(2, .int (nI i_1)), (0, .ref (ad 49)), (1, .int b1)] [] := by
    intro n_1
    induction n_1 with
    | zero => intro i_1 M1 h1 h2; exact absurd h2 (by omega)
    | succ n_1 ih1 =>
      intro i_1 M1 h1i_1 h2i_1 hs1 hvi_1
      refine j_iload_n X 0 rfl rfl dX0_endOrDull_2 ?_
      refine j_aload_n X 1 rfl rfl dX0_endOrDull_3 ?_
      refine j_get X (by decide) (wE_0 _ rfl) rfl awF0 3 (by decide) aw_155 rfl (v := .int (M1 49 3)) rfl dX0_endOrDull_4 ?_
      refine j_eqi (v := (nI n)) ((hs1 49 3 rfl).trans hm) ?_
      refine j_icmp_ge X 130 (by decide) dX0_endOrDull_7 (fun c_2 => ?_) (fun c_2 => ?_)
      · have c_2 := (nI_leI (by omega) (by omega)).mp (show nI (n) ≤ nI i_1 from c_2)
        exact j_vret X hr hlocks dX0_endOrDull_130 ⟨(sm_tr sm_rf (sm_w hs1 (by intro b k hb; first | rfl | exact hb | (simp only [Bool.or_eq_false_iff, Bool.and_eq_false_iff, beq_eq_false_iff_ne, ne_eq, decide_eq_false_iff_not] at hb ⊢; omega)))), hvi_1⟩
      · have c_2 : i_1 < n := by
          rcases Nat.lt_or_ge i_1 (n) with g | g
          · exact g
          · exact absurd (show nI (n) ≤ nI i_1 from nI_le g (by omega)) c_2
        refine j_aload_n X 1 rfl rfl dX0_endOrDull_10 ?_
        refine j_get X (by decide) (wE_0 _ rfl) rfl awF0 2 (by decide) aw_60 rfl (v := .ref (ad 50)) rfl dX0_endOrDull_11 ?_
        refine j_iload_n X 0 rfl rfl dX0_endOrDull_14 ?_
        refine j_aald10 X (by decide) rfl (show vp_in (nI i_1) 9 from vp_in_nI (by omega) (by decide)) dX0_endOrDull_15 ?_
        refine j_eqr (v := 51 + i_1) (by rw [nI_clamp (by omega)]; exact rf_one49 (by omega)) ?_
        refine j_astore_n X [(3, .ref (ad (51 + i_1))), (2, .int (nI i_1)), (0, .ref (ad 49)), (1, .int b1)] rfl (by decide) rfl dX0_endOrDull_16 ?_
        refine j_aload_n X 0 rfl rfl dX0_endOrDull_17 ?_
        refine j_getN X (by omega) (wE_1 _ (kd_one49 (by omega))) rfl awF1 6 (by decide) (List.mem_of_getElem? (i := 13) rfl) rfl (v := .int (M1 (51 + i_1) 6)) rfl dX0_endOrDull_18 ?_
        refine j_if_eq X 27 (by decide) dX0_endOrDull_21 (fun c_3 => ?_) (fun c_3 => ?_)
        · have qc_3 := ti_eq (n := 0) (by decide) c_3
          refine j_aload_n X 0 rfl rfl dX0_endOrDull_27 ?_
          refine j_getN X (by omega) (wE_1 _ (kd_one49 (by omega))) rfl awF1 3 (by decide) (List.mem_of_getElem? (i := 7) rfl) rfl (v := .int (M1 (51 + i_1) 3)) rfl dX0_endOrDull_28 ?_
          refine j_aload_n X 0 rfl rfl dX0_endOrDull_31 ?_
          refine j_callVNI X (nn := 0) (As := []) (st := [.int (M1 (51 + i_1) 3)]) (ci := 1) (by omega) (wE_1 _ (kd_one49 (by omega))) rfl aw_220 aw_221 (g_needs l D y ad M1 (51 + i_1) (by omega) (kd_one49 (by omega))) (List.mem_of_getElem? (i := 28) rfl) aw_222 aw_65 (by decide +kernel) ⟨by decide, by decide⟩ rfl (Nat.le_of_ble_eq_true rfl) ⟨by decide, by decide⟩ dX0_endOrDull_32 ?_
          rintro r_4 M1_ rfl
          refine j_icmp_lt X 54 (by decide) dX0_endOrDull_35 (fun c_5 => ?_) (fun c_5 => ?_)
          · have qc_5 := ti_lt (a := (M1 (51 + i_1) 3).toInt) (b := r_4.toInt) rfl rfl c_5
            refine j_iload_n X 3 rfl rfl dX0_endOrDull_54 ?_
            refine j_if_eq X 91 (by decide) dX0_endOrDull_55 (fun c_6 => ?_) (fun c_6 => ?_)
            · have qc_6 := ti_eq (n := 0) (by decide) c_6
              refine j_aload_n X 0 rfl rfl dX0_endOrDull_91 ?_
              refine j_iconst X (v := 0) (by decide) dX0_endOrDull_92 ?_
              refine j_aload_n X 0 rfl rfl dX0_endOrDull_93 ?_
              refine j_getN X (by omega) (wE_1 _ (kd_one49 (by omega))) rfl awF1 3 (by decide) (List.mem_of_getElem? (i := 7) rfl) rfl (v := .int (M1 (51 + i_1) 3)) rfl dX0_endOrDull_94 ?_
              refine j_aload_n X 0 rfl rfl dX0_endOrDull_97 ?_
              refine j_callVNI X (nn := 0) (As := []) (st := [.int (M1 (51 + i_1) 3), .int 0, .ref (ad (51 + i_1))]) (ci := 1) (by omega) (wE_1 _ (kd_one49 (by omega))) rfl aw_223 aw_224 (g_dulls l D y ad M1 (51 + i_1) (by omega) (kd_one49 (by omega))) (List.mem_of_getElem? (i := 30) rfl) aw_225 aw_65 (by decide +kernel) ⟨by decide, by decide⟩ rfl (Nat.le_of_ble_eq_true rfl) ⟨by decide, by decide⟩ dX0_endOrDull_98 ?_
              rintro r_7 M1_ rfl
              refine j_isub X dX0_endOrDull_101 ?_
              refine j_mmax X aw_457 aw_206 aw_203 aw_207 (by decide) (Nat.le_of_ble_eq_true rfl) (by decide) (by decide) dX0_endOrDull_102 ?_
              refine j_putN X (up M1 (51 + i_1) 3 (if 0 < ((M1 (51 + i_1) 3) - r_7) then ((M1 (51 + i_1) 3) - r_7) else 0)) up_o (by omega) (wE_1 _ (kd_one49 (by omega))) rfl awF1 3 (by decide) (wP_1_3 _ _ (kd_one49 (by omega))) tyX1 tyX1_ok nmX1 rfl (ty := .int) (by decide +kernel) rfl rfl (Nat.le_of_ble_eq_true rfl) (List.mem_of_getElem? (i := 7) rfl) rfl dX0_endOrDull_105 ?_
              refine j_aload_n X 0 rfl rfl dX0_endOrDull_108 ?_
              refine j_sipush X (v := 999) (by decide) dX0_endOrDull_109 ?_
              refine j_aload_n X 0 rfl rfl dX0_endOrDull_112 ?_
              refine j_getN X (by omega) (wE_1 _ (kd_one49 (by omega))) rfl awF1 5 (by decide) (List.mem_of_getElem? (i := 11) rfl) rfl (v := .int ((up M1 (51 + i_1) 3 (if 0 < ((M1 (51 + i_1) 3) - r_7) then ((M1 (51 + i_1) 3) - r_7) else 0)) (51 + i_1) 5)) rfl dX0_endOrDull_113 ?_
              refine j_eqi (v := M1 (51 + i_1) 5) ((up_slot _ (by decide)).trans rfl) ?_
              refine j_iconst X (v := 1) (by decide) dX0_endOrDull_116 ?_
              refine j_iadd X dX0_endOrDull_117 ?_
              refine j_mmin X aw_446 aw_202 aw_203 aw_204 (by decide) (Nat.le_of_ble_eq_true rfl) (by decide) (by decide) dX0_endOrDull_118 ?_
              refine j_putN X (up (up M1 (51 + i_1) 3 (if 0 < ((M1 (51 + i_1) 3) - r_7) then ((M1 (51 + i_1) 3) - r_7) else 0)) (51 + i_1) 5 (if ((M1 (51 + i_1) 5) + 1) < 999 then ((M1 (51 + i_1) 5) + 1) else 999)) up_o (by omega) (wE_1 _ (kd_one49 (by omega))) rfl awF1 5 (by decide) (wP_1_5 _ _ (kd_one49 (by omega))) tyX1 tyX1_ok nmX1 rfl (ty := .int) (by decide +kernel) rfl rfl (Nat.le_of_ble_eq_true rfl) (List.mem_of_getElem? (i := 11) rfl) rfl dX0_endOrDull_121 ?_
              refine j_iinc X (v := (nI (i_1 + 1))) 1 [(2, .int (nI (i_1 + 1))), (3, .ref (ad (51 + i_1))), (0, .ref (ad 49)), (1, .int b1)] rfl (show nI i_1 + Int32.ofInt 1 = _ from nI_1 i_1) (by decide) rfl dX0_endOrDull_124 ?_
              refine j_goto X 2 (by decide) dX0_endOrDull_127 ?_
              refine j_lv (lv1 := [(2, .int (nI (i_1 + 1))), (0, .ref (ad 49)), (1, .int b1)]) [0, 2, 3] rfl ?_
              exact ih1 (i_1 + 1) _ (by omega) (by omega) (sm_up (sm_up hs1 (by first | rfl | (simp; done) | (simp; omega) | (simp only [Bool.and_eq_true, Bool.or_eq_true, decide_eq_true_eq, beq_iff_eq]; omega))) (by first | rfl | (simp; done) | (simp; omega) | (simp only [Bool.and_eq_true, Bool.or_eq_true, decide_eq_true_eq, beq_iff_eq]; omega))) (sme_keep (P := (fun b k => b == 6 || b == 11 || (b == 49 && (k == 4 || k == 6 || k == 7 || k == 8)) || (decide (51 ≤ b) && decide (b ≤ 59) && (k == 3 || k == 5)))) (sme_keep (P := (fun b k => b == 6 || b == 11 || (b == 49 && (k == 4 || k == 6 || k == 7 || k == 8)) || (decide (51 ≤ b) && decide (b ≤ 59) && (k == 3 || k == 5)))) hvi_1 (sm_up sm_rf (by first | rfl | (simp; done) | (simp; omega) | (simp only [Bool.and_eq_true, Bool.or_eq_true, decide_eq_true_eq, beq_iff_eq]; omega))) (fun q hq => by first | rfl | (simp; done) | (simp; omega))) (sm_up sm_rf (by first | rfl | (simp; done) | (simp; omega) | (simp only [Bool.and_eq_true, Bool.or_eq_true, decide_eq_true_eq, beq_iff_eq]; omega))) (fun q hq => by first | rfl | (simp; done) | (simp; omega)))
            · have qc_6 := ti_ne (n := 0) (by decide) c_6
              refine j_aload_n X 2 rfl rfl dX0_endOrDull_58 ?_
              refine j_ldc X (v := 99999) aw_447 dX0_endOrDull_59 ?_
              refine j_aload_n X 2 rfl rfl dX0_endOrDull_61 ?_
              refine j_get X (by decide) (wE_0 _ rfl) rfl awF0 7 (by decide) aw_125 rfl (v := .int (M1 49 7)) rfl dX0_endOrDull_62 ?_
              refine j_aload_n X 2 rfl rfl dX0_endOrDull_65 ?_
              refine j_get X (by decide) (wE_0 _ rfl) rfl awF0 1 (by decide) aw_63 rfl (v := .ref (ad 7)) rfl dX0_endOrDull_66 ?_
              refine j_aload_n X 0 rfl rfl dX0_endOrDull_69 ?_
              refine j_getN X (by omega) (wE_1 _ (kd_one49 (by omega))) rfl awF1 3 (by decide) (List.mem_of_getElem? (i := 7) rfl) rfl (v := .int (M1 (51 + i_1) 3)) rfl dX0_endOrDull_70 ?_
              refine j_aload_n X 0 rfl rfl dX0_endOrDull_73 ?_
              refine j_getN X (by omega) (wE_1 _ (kd_one49 (by omega))) rfl awF1 5 (by decide) (List.mem_of_getElem? (i := 11) rfl) rfl (v := .int (M1 (51 + i_1) 5)) rfl dX0_endOrDull_74 ?_
              refine j_aload_n X 0 rfl rfl dX0_endOrDull_77 ?_
              refine j_getN X (by omega) (wE_1 _ (kd_one49 (by omega))) rfl awF1 1 (by decide) (List.mem_of_getElem? (i := 3) rfl) rfl (v := .int (M1 (51 + i_1) 1)) rfl dX0_endOrDull_78 ?_
              refine j_callVNI X (nn := 3) (As := [.int (M1 (51 + i_1) 3), .int (M1 (51 + i_1) 5), .int (M1 (51 + i_1) 1)]) (st := [.int (M1 49 7), .int 99999, .ref (ad 49)]) (ci := 4) (by decide) (wE_4 _ rfl) rfl aw_198 aw_199 (g_gives_7 l D y ad M1 z7 (TextOK_keep (P := (fun b k => b == 6 || b == 11 || (b == 49 && (k == 4 || k == 6 || k == 7 || k == 8)) || (decide (51 ≤ b) && decide (b ≤ 59) && (k == 3 || k == 5 || k == 6)))) (sm_tr sm_rf (sm_w hs1 (by intro b k hb; first | rfl | exact hb | (simp only [Bool.or_eq_false_iff, Bool.and_eq_false_iff, beq_eq_false_iff_ne, ne_eq, decide_eq_false_iff_not] at hb ⊢; omega)))) (fun _ => rfl) (fun _ => rfl) (fun _ => rfl) (fun _ => rfl) hT7) (M1 (51 + i_1) 3) (M1 (51 + i_1) 5) (M1 (51 + i_1) 1)) (List.mem_of_getElem? (i := 14) rfl) aw_200 aw_41 (by decide +kernel) ⟨by decide, by decide⟩ rfl (Nat.le_of_ble_eq_true rfl) ⟨by decide, by decide⟩ dX0_endOrDull_81 ?_
              rintro r_9 M_10 s_8
              refine j_iadd X dX0_endOrDull_84 ?_
              refine j_mmin X aw_446 aw_202 aw_203 aw_204 (by decide) (Nat.le_of_ble_eq_true rfl) (by decide) (by decide) dX0_endOrDull_85 ?_
              refine j_put X (up M_10 49 7 (if ((M1 49 7) + r_9) < 99999 then ((M1 49 7) + r_9) else 99999)) up_o (by decide) (wE_0 _ rfl) rfl awF0 7 (by decide) (wP_0_7 _ _ rfl) tyX0 tyX0_ok nmX0 rfl (ty := .int) (by decide +kernel) rfl rfl (Nat.le_of_ble_eq_true rfl) aw_125 rfl dX0_endOrDull_88 ?_
              refine j_aload_n X 0 rfl rfl dX0_endOrDull_91 ?_
              refine j_iconst X (v := 0) (by decide) dX0_endOrDull_92 ?_
              refine j_aload_n X 0 rfl rfl dX0_endOrDull_93 ?_
              refine j_getN X (by omega) (wE_1 _ (kd_one49 (by omega))) rfl awF1 3 (by decide) (List.mem_of_getElem? (i := 7) rfl) rfl (v := .int ((up M_10 49 7 (if ((M1 49 7) + r_9) < 99999 then ((M1 49 7) + r_9) else 99999)) (51 + i_1) 3)) rfl dX0_endOrDull_94 ?_
              refine j_eqi (v := M_10 (51 + i_1) 3) ((up_cell (by omega)).trans rfl) ?_
              refine j_aload_n X 0 rfl rfl dX0_endOrDull_97 ?_
              refine j_callVNI X (nn := 0) (As := []) (st := [.int (M_10 (51 + i_1) 3), .int 0, .ref (ad (51 + i_1))]) (ci := 1) (by omega) (wE_1 _ (kd_one49 (by omega))) rfl aw_223 aw_224 (g_dulls l D y ad (up M_10 49 7 (if ((M1 49 7) + r_9) < 99999 then ((M1 49 7) + r_9) else 99999)) (51 + i_1) (by omega) (kd_one49 (by omega))) (List.mem_of_getElem? (i := 30) rfl) aw_225 aw_65 (by decide +kernel) ⟨by decide, by decide⟩ rfl (Nat.le_of_ble_eq_true rfl) ⟨by decide, by decide⟩ dX0_endOrDull_98 ?_
              rintro r_11 M1_ rfl
              refine j_isub X dX0_endOrDull_101 ?_
              refine j_mmax X aw_457 aw_206 aw_203 aw_207 (by decide) (Nat.le_of_ble_eq_true rfl) (by decide) (by decide) dX0_endOrDull_102 ?_
              refine j_putN X (up (up M_10 49 7 (if ((M1 49 7) + r_9) < 99999 then ((M1 49 7) + r_9) else 99999)) (51 + i_1) 3 (if 0 < ((M_10 (51 + i_1) 3) - r_11) then ((M_10 (51 + i_1) 3) - r_11) else 0)) up_o (by omega) (wE_1 _ (kd_one49 (by omega))) rfl awF1 3 (by decide) (wP_1_3 _ _ (kd_one49 (by omega))) tyX1 tyX1_ok nmX1 rfl (ty := .int) (by decide +kernel) rfl rfl (Nat.le_of_ble_eq_true rfl) (List.mem_of_getElem? (i := 7) rfl) rfl dX0_endOrDull_105 ?_
              refine j_aload_n X 0 rfl rfl dX0_endOrDull_108 ?_
              refine j_sipush X (v := 999) (by decide) dX0_endOrDull_109 ?_
              refine j_aload_n X 0 rfl rfl dX0_endOrDull_112 ?_
              refine j_getN X (by omega) (wE_1 _ (kd_one49 (by omega))) rfl awF1 5 (by decide) (List.mem_of_getElem? (i := 11) rfl) rfl (v := .int ((up (up M_10 49 7 (if ((M1 49 7) + r_9) < 99999 then ((M1 49 7) + r_9) else 99999)) (51 + i_1) 3 (if 0 < ((M_10 (51 + i_1) 3) - r_11) then ((M_10 (51 + i_1) 3) - r_11) else 0)) (51 + i_1) 5)) rfl dX0_endOrDull_113 ?_
              refine j_eqi (v := M_10 (51 + i_1) 5) ((up_slot _ (by decide)).trans ((up_cell (by omega)).trans rfl)) ?_
              refine j_iconst X (v := 1) (by decide) dX0_endOrDull_116 ?_
              refine j_iadd X dX0_endOrDull_117 ?_
              refine j_mmin X aw_446 aw_202 aw_203 aw_204 (by decide) (Nat.le_of_ble_eq_true rfl) (by decide) (by decide) dX0_endOrDull_118 ?_
              refine j_putN X (up (up (up M_10 49 7 (if ((M1 49 7) + r_9) < 99999 then ((M1 49 7) + r_9) else 99999)) (51 + i_1) 3 (if 0 < ((M_10 (51 + i_1) 3) - r_11) then ((M_10 (51 + i_1) 3) - r_11) else 0)) (51 + i_1) 5 (if ((M_10 (51 + i_1) 5) + 1) < 999 then ((M_10 (51 + i_1) 5) + 1) else 999)) up_o (by omega) (wE_1 _ (kd_one49 (by omega))) rfl awF1 5 (by decide) (wP_1_5 _ _ (kd_one49 (by omega))) tyX1 tyX1_ok nmX1 rfl (ty := .int) (by decide +kernel) rfl rfl (Nat.le_of_ble_eq_true rfl) (List.mem_of_getElem? (i := 11) rfl) rfl dX0_endOrDull_121 ?_
              refine j_iinc X (v := (nI (i_1 + 1))) 1 [(2, .int (nI (i_1 + 1))), (3, .ref (ad (51 + i_1))), (0, .ref (ad 49)), (1, .int b1)] rfl (show nI i_1 + Int32.ofInt 1 = _ from nI_1 i_1) (by decide) rfl dX0_endOrDull_124 ?_
              refine j_goto X 2 (by decide) dX0_endOrDull_127 ?_
              refine j_lv (lv1 := [(2, .int (nI (i_1 + 1))), (0, .ref (ad 49)), (1, .int b1)]) [0, 2, 3] rfl ?_
              exact ih1 (i_1 + 1) _ (by omega) (by omega) (sm_up (sm_up (sm_up (sm_tr hs1 (sm_w s_8 (by intro b k hb; first | rfl | exact hb | (simp only [Bool.or_eq_false_iff, Bool.and_eq_false_iff, beq_eq_false_iff_ne, ne_eq, decide_eq_false_iff_not] at hb ⊢; omega)))) rfl) (by first | rfl | (simp; done) | (simp; omega) | (simp only [Bool.and_eq_true, Bool.or_eq_true, decide_eq_true_eq, beq_iff_eq]; omega))) (by first | rfl | (simp; done) | (simp; omega) | (simp only [Bool.and_eq_true, Bool.or_eq_true, decide_eq_true_eq, beq_iff_eq]; omega))) (sme_keep (P := (fun b k => b == 6 || b == 11 || (b == 49 && (k == 4 || k == 6 || k == 7 || k == 8)) || (decide (51 ≤ b) && decide (b ≤ 59) && (k == 3 || k == 5)))) (sme_keep (P := (fun b k => b == 6 || b == 11 || (b == 49 && (k == 4 || k == 6 || k == 7 || k == 8)) || (decide (51 ≤ b) && decide (b ≤ 59) && (k == 3 || k == 5)))) (sme_keep (P := (fun b k => b == 6 || b == 11 || (b == 49 && (k == 4 || k == 6 || k == 7 || k == 8)) || (decide (51 ≤ b) && decide (b ≤ 59) && (k == 3 || k == 5)))) (sme_keep hvi_1 s_8 (fun q hq => by first | rfl | (simp; done) | (simp; omega))) (sm_up sm_rf (by first | rfl | (simp; done) | (simp; omega) | (simp only [Bool.and_eq_true, Bool.or_eq_true, decide_eq_true_eq, beq_iff_eq]; omega))) (fun q hq => by first | rfl | (simp; done) | (simp; omega))) (sm_up sm_rf (by first | rfl | (simp; done) | (simp; omega) | (simp only [Bool.and_eq_true, Bool.or_eq_true, decide_eq_true_eq, beq_iff_eq]; omega))) (fun q hq => by first | rfl | (simp; done) | (simp; omega))) (sm_up sm_rf (by first | rfl | (simp; done) | (simp; omega) | (simp only [Bool.and_eq_true, Bool.or_eq_true, decide_eq_true_eq, beq_iff_eq]; omega))) (fun q hq => by first | rfl | (simp; done) | (simp; omega)))
          · have qc_5 := ti_nlt (a := (M1 (51 + i_1) 3).toInt) (b := r_4.toInt) rfl rfl c_5
            refine j_aload_n X 2 rfl rfl dX0_endOrDull_38 ?_
            refine j_aload_n X 0 rfl rfl dX0_endOrDull_39 ?_
            refine j_callVI X (nn := 1) (As := [.ref (ad (51 + i_1))]) (st := []) (ci := 0) (by decide) (wE_0 _ rfl) rfl aw_459 aw_460 (g_isFree_49 l D y ad M1 n (by omega) ((hs1 49 3 rfl).trans hm) i_1 (by omega)) aw_458 aw_461 aw_20 (by decide +kernel) ⟨by decide, by decide⟩ rfl (Nat.le_of_ble_eq_true rfl) ⟨by decide, by decide⟩ dX0_endOrDull_40 ?_
            rintro r_ M1_ (⟨rfl, rfl⟩ | ⟨rfl, rfl⟩)
            · refine j_if_eq X 54 (by decide) dX0_endOrDull_43 (fun c_12 => ?_) (fun c_12 => False.elim (by revert c_12; decide))
              refine j_iload_n X 3 rfl rfl dX0_endOrDull_54 ?_
              refine j_if_eq X 91 (by decide) dX0_endOrDull_55 (fun c_13 => ?_) (fun c_13 => ?_)
              · have qc_13 := ti_eq (n := 0) (by decide) c_13
                refine j_aload_n X 0 rfl rfl dX0_endOrDull_91 ?_
                refine j_iconst X (v := 0) (by decide) dX0_endOrDull_92 ?_
                refine j_aload_n X 0 rfl rfl dX0_endOrDull_93 ?_
                refine j_getN X (by omega) (wE_1 _ (kd_one49 (by omega))) rfl awF1 3 (by decide) (List.mem_of_getElem? (i := 7) rfl) rfl (v := .int (M1 (51 + i_1) 3)) rfl dX0_endOrDull_94 ?_
                refine j_aload_n X 0 rfl rfl dX0_endOrDull_97 ?_
                refine j_callVNI X (nn := 0) (As := []) (st := [.int (M1 (51 + i_1) 3), .int 0, .ref (ad (51 + i_1))]) (ci := 1) (by omega) (wE_1 _ (kd_one49 (by omega))) rfl aw_223 aw_224 (g_dulls l D y ad M1 (51 + i_1) (by omega) (kd_one49 (by omega))) (List.mem_of_getElem? (i := 30) rfl) aw_225 aw_65 (by decide +kernel) ⟨by decide, by decide⟩ rfl (Nat.le_of_ble_eq_true rfl) ⟨by decide, by decide⟩ dX0_endOrDull_98 ?_
                rintro r_14 M1_ rfl
                refine j_isub X dX0_endOrDull_101 ?_
                refine j_mmax X aw_457 aw_206 aw_203 aw_207 (by decide) (Nat.le_of_ble_eq_true rfl) (by decide) (by decide) dX0_endOrDull_102 ?_
                refine j_putN X (up M1 (51 + i_1) 3 (if 0 < ((M1 (51 + i_1) 3) - r_14) then ((M1 (51 + i_1) 3) - r_14) else 0)) up_o (by omega) (wE_1 _ (kd_one49 (by omega))) rfl awF1 3 (by decide) (wP_1_3 _ _ (kd_one49 (by omega))) tyX1 tyX1_ok nmX1 rfl (ty := .int) (by decide +kernel) rfl rfl (Nat.le_of_ble_eq_true rfl) (List.mem_of_getElem? (i := 7) rfl) rfl dX0_endOrDull_105 ?_
                refine j_aload_n X 0 rfl rfl dX0_endOrDull_108 ?_
                refine j_sipush X (v := 999) (by decide) dX0_endOrDull_109 ?_
                refine j_aload_n X 0 rfl rfl dX0_endOrDull_112 ?_
                refine j_getN X (by omega) (wE_1 _ (kd_one49 (by omega))) rfl awF1 5 (by decide) (List.mem_of_getElem? (i := 11) rfl) rfl (v := .int ((up M1 (51 + i_1) 3 (if 0 < ((M1 (51 + i_1) 3) - r_14) then ((M1 (51 + i_1) 3) - r_14) else 0)) (51 + i_1) 5)) rfl dX0_endOrDull_113 ?_
                refine j_eqi (v := M1 (51 + i_1) 5) ((up_slot _ (by decide)).trans rfl) ?_
                refine j_iconst X (v := 1) (by decide) dX0_endOrDull_116 ?_
                refine j_iadd X dX0_endOrDull_117 ?_
                refine j_mmin X aw_446 aw_202 aw_203 aw_204 (by decide) (Nat.le_of_ble_eq_true rfl) (by decide) (by decide) dX0_endOrDull_118 ?_
                refine j_putN X (up (up M1 (51 + i_1) 3 (if 0 < ((M1 (51 + i_1) 3) - r_14) then ((M1 (51 + i_1) 3) - r_14) else 0)) (51 + i_1) 5 (if ((M1 (51 + i_1) 5) + 1) < 999 then ((M1 (51 + i_1) 5) + 1) else 999)) up_o (by omega) (wE_1 _ (kd_one49 (by omega))) rfl awF1 5 (by decide) (wP_1_5 _ _ (kd_one49 (by omega))) tyX1 tyX1_ok nmX1 rfl (ty := .int) (by decide +kernel) rfl rfl (Nat.le_of_ble_eq_true rfl) (List.mem_of_getElem? (i := 11) rfl) rfl dX0_endOrDull_121 ?_
                refine j_iinc X (v := (nI (i_1 + 1))) 1 [(2, .int (nI (i_1 + 1))), (3, .ref (ad (51 + i_1))), (0, .ref (ad 49)), (1, .int b1)] rfl (show nI i_1 + Int32.ofInt 1 = _ from nI_1 i_1) (by decide) rfl dX0_endOrDull_124 ?_
                refine j_goto X 2 (by decide) dX0_endOrDull_127 ?_
                refine j_lv (lv1 := [(2, .int (nI (i_1 + 1))), (0, .ref (ad 49)), (1, .int b1)]) [0, 2, 3] rfl ?_
                exact ih1 (i_1 + 1) _ (by omega) (by omega) (sm_up (sm_up hs1 (by first | rfl | (simp; done) | (simp; omega) | (simp only [Bool.and_eq_true, Bool.or_eq_true, decide_eq_true_eq, beq_iff_eq]; omega))) (by first | rfl | (simp; done) | (simp; omega) | (simp only [Bool.and_eq_true, Bool.or_eq_true, decide_eq_true_eq, beq_iff_eq]; omega))) (sme_keep (P := (fun b k => b == 6 || b == 11 || (b == 49 && (k == 4 || k == 6 || k == 7 || k == 8)) || (decide (51 ≤ b) && decide (b ≤ 59) && (k == 3 || k == 5)))) (sme_keep (P := (fun b k => b == 6 || b == 11 || (b == 49 && (k == 4 || k == 6 || k == 7 || k == 8)) || (decide (51 ≤ b) && decide (b ≤ 59) && (k == 3 || k == 5)))) hvi_1 (sm_up sm_rf (by first | rfl | (simp; done) | (simp; omega) | (simp only [Bool.and_eq_true, Bool.or_eq_true, decide_eq_true_eq, beq_iff_eq]; omega))) (fun q hq => by first | rfl | (simp; done) | (simp; omega))) (sm_up sm_rf (by first | rfl | (simp; done) | (simp; omega) | (simp only [Bool.and_eq_true, Bool.or_eq_true, decide_eq_true_eq, beq_iff_eq]; omega))) (fun q hq => by first | rfl | (simp; done) | (simp; omega)))
              · have qc_13 := ti_ne (n := 0) (by decide) c_13
                refine j_aload_n X 2 rfl rfl dX0_endOrDull_58 ?_
                refine j_ldc X (v := 99999) aw_447 dX0_endOrDull_59 ?_
                refine j_aload_n X 2 rfl rfl dX0_endOrDull_61 ?_
                refine j_get X (by decide) (wE_0 _ rfl) rfl awF0 7 (by decide) aw_125 rfl (v := .int (M1 49 7)) rfl dX0_endOrDull_62 ?_
                refine j_aload_n X 2 rfl rfl dX0_endOrDull_65 ?_
                refine j_get X (by decide) (wE_0 _ rfl) rfl awF0 1 (by decide) aw_63 rfl (v := .ref (ad 7)) rfl dX0_endOrDull_66 ?_
                refine j_aload_n X 0 rfl rfl dX0_endOrDull_69 ?_
                refine j_getN X (by omega) (wE_1 _ (kd_one49 (by omega))) rfl awF1 3 (by decide) (List.mem_of_getElem? (i := 7) rfl) rfl (v := .int (M1 (51 + i_1) 3)) rfl dX0_endOrDull_70 ?_
                refine j_aload_n X 0 rfl rfl dX0_endOrDull_73 ?_
                refine j_getN X (by omega) (wE_1 _ (kd_one49 (by omega))) rfl awF1 5 (by decide) (List.mem_of_getElem? (i := 11) rfl) rfl (v := .int (M1 (51 + i_1) 5)) rfl dX0_endOrDull_74 ?_
                refine j_aload_n X 0 rfl rfl dX0_endOrDull_77 ?_
                refine j_getN X (by omega) (wE_1 _ (kd_one49 (by omega))) rfl awF1 1 (by decide) (List.mem_of_getElem? (i := 3) rfl) rfl (v := .int (M1 (51 + i_1) 1)) rfl dX0_endOrDull_78 ?_
                refine j_callVNI X (nn := 3) (As := [.int (M1 (51 + i_1) 3), .int (M1 (51 + i_1) 5), .int (M1 (51 + i_1) 1)]) (st := [.int (M1 49 7), .int 99999, .ref (ad 49)]) (ci := 4) (by decide) (wE_4 _ rfl) rfl aw_198 aw_199 (g_gives_7 l D y ad M1 z7 (TextOK_keep (P := (fun b k => b == 6 || b == 11 || (b == 49 && (k == 4 || k == 6 || k == 7 || k == 8)) || (decide (51 ≤ b) && decide (b ≤ 59) && (k == 3 || k == 5 || k == 6)))) (sm_tr sm_rf (sm_w hs1 (by intro b k hb; first | rfl | exact hb | (simp only [Bool.or_eq_false_iff, Bool.and_eq_false_iff, beq_eq_false_iff_ne, ne_eq, decide_eq_false_iff_not] at hb ⊢; omega)))) (fun _ => rfl) (fun _ => rfl) (fun _ => rfl) (fun _ => rfl) hT7) (M1 (51 + i_1) 3) (M1 (51 + i_1) 5) (M1 (51 + i_1) 1)) (List.mem_of_getElem? (i := 14) rfl) aw_200 aw_41 (by decide +kernel) ⟨by decide, by decide⟩ rfl (Nat.le_of_ble_eq_true rfl) ⟨by decide, by decide⟩ dX0_endOrDull_81 ?_
                rintro r_16 M_17 s_15
                refine j_iadd X dX0_endOrDull_84 ?_
                refine j_mmin X aw_446 aw_202 aw_203 aw_204 (by decide) (Nat.le_of_ble_eq_true rfl) (by decide) (by decide) dX0_endOrDull_85 ?_
                refine j_put X (up M_17 49 7 (if ((M1 49 7) + r_16) < 99999 then ((M1 49 7) + r_16) else 99999)) up_o (by decide) (wE_0 _ rfl) rfl awF0 7 (by decide) (wP_0_7 _ _ rfl) tyX0 tyX0_ok nmX0 rfl (ty := .int) (by decide +kernel) rfl rfl (Nat.le_of_ble_eq_true rfl) aw_125 rfl dX0_endOrDull_88 ?_
                refine j_aload_n X 0 rfl rfl dX0_endOrDull_91 ?_
                refine j_iconst X (v := 0) (by decide) dX0_endOrDull_92 ?_
                refine j_aload_n X 0 rfl rfl dX0_endOrDull_93 ?_
                refine j_getN X (by omega) (wE_1 _ (kd_one49 (by omega))) rfl awF1 3 (by decide) (List.mem_of_getElem? (i := 7) rfl) rfl (v := .int ((up M_17 49 7 (if ((M1 49 7) + r_16) < 99999 then ((M1 49 7) + r_16) else 99999)) (51 + i_1) 3)) rfl dX0_endOrDull_94 ?_
                refine j_eqi (v := M_17 (51 + i_1) 3) ((up_cell (by omega)).trans rfl) ?_
                refine j_aload_n X 0 rfl rfl dX0_endOrDull_97 ?_
                refine j_callVNI X (nn := 0) (As := []) (st := [.int (M_17 (51 + i_1) 3), .int 0, .ref (ad (51 + i_1))]) (ci := 1) (by omega) (wE_1 _ (kd_one49 (by omega))) rfl aw_223 aw_224 (g_dulls l D y ad (up M_17 49 7 (if ((M1 49 7) + r_16) < 99999 then ((M1 49 7) + r_16) else 99999)) (51 + i_1) (by omega) (kd_one49 (by omega))) (List.mem_of_getElem? (i := 30) rfl) aw_225 aw_65 (by decide +kernel) ⟨by decide, by decide⟩ rfl (Nat.le_of_ble_eq_true rfl) ⟨by decide, by decide⟩ dX0_endOrDull_98 ?_
                rintro r_18 M1_ rfl
                refine j_isub X dX0_endOrDull_101 ?_
                refine j_mmax X aw_457 aw_206 aw_203 aw_207 (by decide) (Nat.le_of_ble_eq_true rfl) (by decide) (by decide) dX0_endOrDull_102 ?_
                refine j_putN X (up (up M_17 49 7 (if ((M1 49 7) + r_16) < 99999 then ((M1 49 7) + r_16) else 99999)) (51 + i_1) 3 (if 0 < ((M_17 (51 + i_1) 3) - r_18) then ((M_17 (51 + i_1) 3) - r_18) else 0)) up_o (by omega) (wE_1 _ (kd_one49 (by omega))) rfl awF1 3 (by decide) (wP_1_3 _ _ (kd_one49 (by omega))) tyX1 tyX1_ok nmX1 rfl (ty := .int) (by decide +kernel) rfl rfl (Nat.le_of_ble_eq_true rfl) (List.mem_of_getElem? (i := 7) rfl) rfl dX0_endOrDull_105 ?_
                refine j_aload_n X 0 rfl rfl dX0_endOrDull_108 ?_
                refine j_sipush X (v := 999) (by decide) dX0_endOrDull_109 ?_
                refine j_aload_n X 0 rfl rfl dX0_endOrDull_112 ?_
                refine j_getN X (by omega) (wE_1 _ (kd_one49 (by omega))) rfl awF1 5 (by decide) (List.mem_of_getElem? (i := 11) rfl) rfl (v := .int ((up (up M_17 49 7 (if ((M1 49 7) + r_16) < 99999 then ((M1 49 7) + r_16) else 99999)) (51 + i_1) 3 (if 0 < ((M_17 (51 + i_1) 3) - r_18) then ((M_17 (51 + i_1) 3) - r_18) else 0)) (51 + i_1) 5)) rfl dX0_endOrDull_113 ?_
                refine j_eqi (v := M_17 (51 + i_1) 5) ((up_slot _ (by decide)).trans ((up_cell (by omega)).trans rfl)) ?_
                refine j_iconst X (v := 1) (by decide) dX0_endOrDull_116 ?_
                refine j_iadd X dX0_endOrDull_117 ?_
                refine j_mmin X aw_446 aw_202 aw_203 aw_204 (by decide) (Nat.le_of_ble_eq_true rfl) (by decide) (by decide) dX0_endOrDull_118 ?_
                refine j_putN X (up (up (up M_17 49 7 (if ((M1 49 7) + r_16) < 99999 then ((M1 49 7) + r_16) else 99999)) (51 + i_1) 3 (if 0 < ((M_17 (51 + i_1) 3) - r_18) then ((M_17 (51 + i_1) 3) - r_18) else 0)) (51 + i_1) 5 (if ((M_17 (51 + i_1) 5) + 1) < 999 then ((M_17 (51 + i_1) 5) + 1) else 999)) up_o (by omega) (wE_1 _ (kd_one49 (by omega))) rfl awF1 5 (by decide) (wP_1_5 _ _ (kd_one49 (by omega))) tyX1 tyX1_ok nmX1 rfl (ty := .int) (by decide +kernel) rfl rfl (Nat.le_of_ble_eq_true rfl) (List.mem_of_getElem? (i := 11) rfl) rfl dX0_endOrDull_121 ?_
                refine j_iinc X (v := (nI (i_1 + 1))) 1 [(2, .int (nI (i_1 + 1))), (3, .ref (ad (51 + i_1))), (0, .ref (ad 49)), (1, .int b1)] rfl (show nI i_1 + Int32.ofInt 1 = _ from nI_1 i_1) (by decide) rfl dX0_endOrDull_124 ?_
                refine j_goto X 2 (by decide) dX0_endOrDull_127 ?_
                refine j_lv (lv1 := [(2, .int (nI (i_1 + 1))), (0, .ref (ad 49)), (1, .int b1)]) [0, 2, 3] rfl ?_
                exact ih1 (i_1 + 1) _ (by omega) (by omega) (sm_up (sm_up (sm_up (sm_tr hs1 (sm_w s_15 (by intro b k hb; first | rfl | exact hb | (simp only [Bool.or_eq_false_iff, Bool.and_eq_false_iff, beq_eq_false_iff_ne, ne_eq, decide_eq_false_iff_not] at hb ⊢; omega)))) rfl) (by first | rfl | (simp; done) | (simp; omega) | (simp only [Bool.and_eq_true, Bool.or_eq_true, decide_eq_true_eq, beq_iff_eq]; omega))) (by first | rfl | (simp; done) | (simp; omega) | (simp only [Bool.and_eq_true, Bool.or_eq_true, decide_eq_true_eq, beq_iff_eq]; omega))) (sme_keep (P := (fun b k => b == 6 || b == 11 || (b == 49 && (k == 4 || k == 6 || k == 7 || k == 8)) || (decide (51 ≤ b) && decide (b ≤ 59) && (k == 3 || k == 5)))) (sme_keep (P := (fun b k => b == 6 || b == 11 || (b == 49 && (k == 4 || k == 6 || k == 7 || k == 8)) || (decide (51 ≤ b) && decide (b ≤ 59) && (k == 3 || k == 5)))) (sme_keep (P := (fun b k => b == 6 || b == 11 || (b == 49 && (k == 4 || k == 6 || k == 7 || k == 8)) || (decide (51 ≤ b) && decide (b ≤ 59) && (k == 3 || k == 5)))) (sme_keep hvi_1 s_15 (fun q hq => by first | rfl | (simp; done) | (simp; omega))) (sm_up sm_rf (by first | rfl | (simp; done) | (simp; omega) | (simp only [Bool.and_eq_true, Bool.or_eq_true, decide_eq_true_eq, beq_iff_eq]; omega))) (fun q hq => by first | rfl | (simp; done) | (simp; omega))) (sm_up sm_rf (by first | rfl | (simp; done) | (simp; omega) | (simp only [Bool.and_eq_true, Bool.or_eq_true, decide_eq_true_eq, beq_iff_eq]; omega))) (fun q hq => by first | rfl | (simp; done) | (simp; omega))) (sm_up sm_rf (by first | rfl | (simp; done) | (simp; omega) | (simp only [Bool.and_eq_true, Bool.or_eq_true, decide_eq_true_eq, beq_iff_eq]; omega))) (fun q hq => by first | rfl | (simp; done) | (simp; omega)))
            · refine j_if_eq X 54 (by decide) dX0_endOrDull_43 (fun c_19 => False.elim (by revert c_19; decide)) (fun c_19 => ?_)
              refine j_aload_n X 0 rfl rfl dX0_endOrDull_46 ?_
              refine j_iconst X (v := 1) (by decide) dX0_endOrDull_47 ?_
              refine j_putN X (up M1 (51 + i_1) 6 1) up_o (by omega) (wE_1 _ (kd_one49 (by omega))) rfl awF1 6 (by decide) (wP_1_6 _ _ (kd_one49 (by omega))) tyX1 tyX1_ok nmX1 rfl (ty := .boolean) (by decide +kernel) rfl rfl (Nat.le_of_ble_eq_true rfl) (List.mem_of_getElem? (i := 13) rfl) rfl dX0_endOrDull_48 ?_
              refine j_goto X 124 (by decide) dX0_endOrDull_51 ?_
              refine j_iinc X (v := (nI (i_1 + 1))) 1 [(2, .int (nI (i_1 + 1))), (3, .ref (ad (51 + i_1))), (0, .ref (ad 49)), (1, .int b1)] rfl (show nI i_1 + Int32.ofInt 1 = _ from nI_1 i_1) (by decide) rfl dX0_endOrDull_124 ?_
              refine j_goto X 2 (by decide) dX0_endOrDull_127 ?_
              refine j_lv (lv1 := [(2, .int (nI (i_1 + 1))), (0, .ref (ad 49)), (1, .int b1)]) [0, 2, 3] rfl ?_
              exact ih1 (i_1 + 1) _ (by omega) (by omega) (sm_up hs1 (by first | rfl | (simp; done) | (simp; omega) | (simp only [Bool.and_eq_true, Bool.or_eq_true, decide_eq_true_eq, beq_iff_eq]; omega))) (sme_set hvi_1)
        · have qc_3 := ti_ne (n := 0) (by decide) c_3
          refine j_goto X 124 (by decide) dX0_endOrDull_24 ?_
          refine j_iinc X (v := (nI (i_1 + 1))) 1 [(2, .int (nI (i_1 + 1))), (3, .ref (ad (51 + i_1))), (0, .ref (ad 49)), (1, .int b1)] rfl (show nI i_1 + Int32.ofInt 1 = _ from nI_1 i_1) (by decide) rfl dX0_endOrDull_124 ?_
          refine j_goto X 2 (by decide) dX0_endOrDull_127 ?_
          refine j_lv (lv1 := [(2, .int (nI (i_1 + 1))), (0, .ref (ad 49)), (1, .int b1)]) [0, 2, 3] rfl ?_
          exact ih1 (i_1 + 1) _ (by omega) (by omega) hs1 hvi_1
  refine j_lv (lv1 := [(2, .int (nI 0)), (0, .ref (ad 49)), (1, .int b1)]) [0, 1, 2] rfl ?_
  exact loop1 (n + 1) 0 _ (by omega) (by omega) sm_rf sme_rf
set_option maxRecDepth 100000 in
set_option maxHeartbeats 4000000 in
theorem g_restDay_49 (l : Launch) (D : va_G) (y : wY) (ad : Nat → Nat) (M : Mem) (n : Nat) (hn : n ≤ 9) (hm : M 49 3 = nI n) (z2 z7 : Nat) (hT2 : TextOK M 2 z2) (hT7 : TextOK M 7 z7) (b1 : Int32) : MV l D y ad yX0_restDay (Cond.code yX0_restDay cX0_restDay 2 none) 5 M [.ref (ad 49), .int b1] (fun M' => sm (fun b k => b == 6 || b == 11 || (b == 49 && (k == 4 || k == 6 || k == 7 || k == 8)) || (decide (51 ≤ b) && decide (b ≤ 59) && (k == 3 || k == 5 || k == 6))) M M' ∧ sme 51 M M') := by
  refine MV_of (by decide) (Nat.le_of_ble_eq_true rfl) ?_
  intro p e s m args below meth c X hr hlocks
  refine j_lv (lv1 := [(0, .ref (ad 49)), (1, .int b1)]) [0, 1] rfl ?_
  refine j_aload_n X 0 rfl rfl dX0_restDay_0 ?_
  refine j_iload_n X 1 rfl rfl dX0_restDay_1 ?_
  refine j_callVV X (nn := 1) (As := [.int b1]) (st := []) (ci := 0) (by decide) (wE_0 _ rfl) rfl aw_454 aw_455 (g_endOrDull_49 l D y ad M n (by omega) hm z2 z7 hT2 hT7 b1) aw_453 aw_456 aw_20 (by decide +kernel) ⟨by decide, by decide⟩ rfl (Nat.le_of_ble_eq_true rfl) ⟨by decide, by decide⟩ dX0_restDay_2 ?_
  rintro M_2 ⟨s_1, s_1_e⟩
  refine j_aload_n X 0 rfl rfl dX0_restDay_5 ?_
  refine j_aload_n X 0 rfl rfl dX0_restDay_6 ?_
  refine j_get X (by decide) (wE_0 _ rfl) rfl awF0 4 (by decide) aw_124 rfl (v := .int (M_2 49 4)) rfl dX0_restDay_7 ?_
  refine j_aload_n X 0 rfl rfl dX0_restDay_10 ?_
  refine j_get X (by decide) (wE_0 _ rfl) rfl awF0 5 (by decide) aw_61 rfl (v := .int (M_2 49 5)) rfl dX0_restDay_11 ?_
  refine j_iadd X dX0_restDay_14 ?_
  refine j_bipush X (v := 10) (by decide) dX0_restDay_15 ?_
  refine j_irem X (by decide) dX0_restDay_17 ?_
  refine j_put X (up M_2 49 4 (((M_2 49 4) + (M_2 49 5)) - ((M_2 49 4) + (M_2 49 5)) / 10 * 10)) up_o (by decide) (wE_0 _ rfl) rfl awF0 4 (by decide) (wP_0_4 _ _ rfl) tyX0 tyX0_ok nmX0 rfl (ty := .int) (by decide +kernel) rfl rfl (Nat.le_of_ble_eq_true rfl) aw_124 rfl dX0_restDay_18 ?_
  refine j_aload_n X 0 rfl rfl dX0_restDay_21 ?_
  refine j_dup X rfl dX0_restDay_22 ?_
  refine j_get X (by decide) (wE_0 _ rfl) rfl awF0 6 (by decide) aw_197 rfl (v := .int ((up M_2 49 4 (((M_2 49 4) + (M_2 49 5)) - ((M_2 49 4) + (M_2 49 5)) / 10 * 10)) 49 6)) rfl dX0_restDay_23 ?_
  refine j_eqi (v := M_2 49 6) ((up_slot _ (by decide)).trans rfl) ?_
  refine j_iconst X (v := 1) (by decide) dX0_restDay_26 ?_
  refine j_iadd X dX0_restDay_27 ?_
  refine j_put X (up (up M_2 49 4 (((M_2 49 4) + (M_2 49 5)) - ((M_2 49 4) + (M_2 49 5)) / 10 * 10)) 49 6 ((M_2 49 6) + 1)) up_o (by decide) (wE_0 _ rfl) rfl awF0 6 (by decide) (wP_0_6 _ _ rfl) tyX0 tyX0_ok nmX0 rfl (ty := .int) (by decide +kernel) rfl rfl (Nat.le_of_ble_eq_true rfl) aw_197 rfl dX0_restDay_28 ?_
  exact j_vret X hr hlocks dX0_restDay_31 ⟨(sm_up (sm_up (sm_tr sm_rf (sm_w s_1 (by intro b k hb; first | rfl | exact hb | (simp only [Bool.or_eq_false_iff, Bool.and_eq_false_iff, beq_eq_false_iff_ne, ne_eq, decide_eq_false_iff_not] at hb ⊢; omega)))) rfl) rfl), (sme_keep (P := (fun b k => b == 6 || b == 11 || (b == 49 && (k == 4 || k == 6 || k == 7 || k == 8)) || (decide (51 ≤ b) && decide (b ≤ 59) && (k == 3 || k == 5)))) (sme_keep (P := (fun b k => b == 6 || b == 11 || (b == 49 && (k == 4 || k == 6 || k == 7 || k == 8)) || (decide (51 ≤ b) && decide (b ≤ 59) && (k == 3 || k == 5)))) (sme_tr sme_rf s_1_e) (sm_up sm_rf (by first | rfl | (simp; done) | (simp; omega) | (simp only [Bool.and_eq_true, Bool.or_eq_true, decide_eq_true_eq, beq_iff_eq]; omega))) (fun q hq => by first | rfl | (simp; done) | (simp; omega))) (sm_up sm_rf (by first | rfl | (simp; done) | (simp; omega) | (simp only [Bool.and_eq_true, Bool.or_eq_true, decide_eq_true_eq, beq_iff_eq]; omega))) (fun q hq => by first | rfl | (simp; done) | (simp; omega)))⟩
set_option maxRecDepth 100000 in
set_option maxHeartbeats 4000000 in
theorem g_passDay_49 (l : Launch) (D : va_G) (y : wY) (ad : Nat → Nat) (M : Mem) (n : Nat) (hn : n ≤ 9) (hm : M 49 3 = nI n) (z2 z7 : Nat) (hT2 : TextOK M 2 z2) (hT7 : TextOK M 7 z7) (b1 : Int32) : MV l D y ad yX0_passDay (Cond.code yX0_passDay cX0_passDay 2 none) 6 M [.ref (ad 49), .int b1] (fun M' => sm (fun b k => b == 6 || b == 11 || (b == 49 && (k == 4 || k == 6 || k == 7 || k == 8)) || (decide (51 ≤ b) && decide (b ≤ 59) && (k == 3 || k == 5 || k == 6))) M M' ∧ sme 51 M M') := by
  refine MV_of (by decide) (Nat.le_of_ble_eq_true rfl) ?_
  intro p e s m args below meth c X hr hlocks
  refine j_lv (lv1 := [(0, .ref (ad 49)), (1, .int b1)]) [0, 1] rfl ?_
  refine j_aload_n X 0 rfl rfl dX0_passDay_0 ?_
  refine j_callVV X (nn := 0) (As := []) (st := []) (ci := 0) (by decide) (wE_0 _ rfl) rfl aw_443 aw_444 (g_grindArea_49 l D y ad M n (by omega) hm z2 z7 hT2 hT7) aw_442 aw_445 aw_20 (by decide +kernel) ⟨by decide, by decide⟩ rfl (Nat.le_of_ble_eq_true rfl) ⟨by decide, by decide⟩ dX0_passDay_1 ?_
  rintro M_2 s_1
  refine j_aload_n X 0 rfl rfl dX0_passDay_4 ?_
  refine j_iload_n X 1 rfl rfl dX0_passDay_5 ?_
  refine j_callVV X (nn := 1) (As := [.int b1]) (st := []) (ci := 0) (by decide) (wE_0 _ rfl) rfl aw_450 aw_451 (g_restDay_49 l D y ad M_2 n (by omega) ((s_1 49 3 rfl).trans hm) z2 z7 (TextOK_keep (P := (fun b k => b == 6 || b == 11 || (b == 49 && (k == 4 || k == 6 || k == 7 || k == 8)) || (decide (51 ≤ b) && decide (b ≤ 59) && (k == 3 || k == 5 || k == 6)))) (sm_tr sm_rf (sm_w s_1 (by intro b k hb; first | rfl | exact hb | (simp only [Bool.or_eq_false_iff, Bool.and_eq_false_iff, beq_eq_false_iff_ne, ne_eq, decide_eq_false_iff_not] at hb ⊢; omega)))) (fun _ => rfl) (fun _ => rfl) (fun _ => rfl) (fun _ => rfl) hT2) (TextOK_keep (P := (fun b k => b == 6 || b == 11 || (b == 49 && (k == 4 || k == 6 || k == 7 || k == 8)) || (decide (51 ≤ b) && decide (b ≤ 59) && (k == 3 || k == 5 || k == 6)))) (sm_tr sm_rf (sm_w s_1 (by intro b k hb; first | rfl | exact hb | (simp only [Bool.or_eq_false_iff, Bool.and_eq_false_iff, beq_eq_false_iff_ne, ne_eq, decide_eq_false_iff_not] at hb ⊢; omega)))) (fun _ => rfl) (fun _ => rfl) (fun _ => rfl) (fun _ => rfl) hT7) b1) aw_449 aw_452 aw_20 (by decide +kernel) ⟨by decide, by decide⟩ rfl (Nat.le_of_ble_eq_true rfl) ⟨by decide, by decide⟩ dX0_passDay_6 ?_
  rintro M_4 ⟨s_3, s_3_e⟩
  exact j_vret X hr hlocks dX0_passDay_9 ⟨(sm_tr (sm_tr sm_rf (sm_w s_1 (by intro b k hb; first | rfl | exact hb | (simp only [Bool.or_eq_false_iff, Bool.and_eq_false_iff, beq_eq_false_iff_ne, ne_eq, decide_eq_false_iff_not] at hb ⊢; omega)))) (sm_w s_3 (by intro b k hb; first | rfl | exact hb | (simp only [Bool.or_eq_false_iff, Bool.and_eq_false_iff, beq_eq_false_iff_ne, ne_eq, decide_eq_false_iff_not] at hb ⊢; omega)))), (sme_tr (sme_keep sme_rf s_1 (fun q hq => by first | rfl | (simp; done) | (simp; omega))) s_3_e)⟩
end
section
theorem dX1_copyFrom_0 : decode cX1_copyFrom 0 = .ok (.aload_n 0, 1) := by decide +kernel
theorem dX1_copyFrom_1 : decode cX1_copyFrom 1 = .ok (.aload_n 1, 1) := by decide +kernel
theorem dX1_copyFrom_2 : decode cX1_copyFrom 2 = .ok (.getfield 9, 3) := by decide +kernel
theorem dX1_copyFrom_5 : decode cX1_copyFrom 5 = .ok (.putfield 9, 3) := by decide +kernel
theorem dX1_copyFrom_8 : decode cX1_copyFrom 8 = .ok (.aload_n 0, 1) := by decide +kernel
theorem dX1_copyFrom_9 : decode cX1_copyFrom 9 = .ok (.aload_n 1, 1) := by decide +kernel
theorem dX1_copyFrom_10 : decode cX1_copyFrom 10 = .ok (.getfield 15, 3) := by decide +kernel
theorem dX1_copyFrom_13 : decode cX1_copyFrom 13 = .ok (.putfield 15, 3) := by decide +kernel
theorem dX1_copyFrom_16 : decode cX1_copyFrom 16 = .ok (.aload_n 0, 1) := by decide +kernel
theorem dX1_copyFrom_17 : decode cX1_copyFrom 17 = .ok (.aload_n 1, 1) := by decide +kernel
theorem dX1_copyFrom_18 : decode cX1_copyFrom 18 = .ok (.getfield 18, 3) := by decide +kernel
theorem dX1_copyFrom_21 : decode cX1_copyFrom 21 = .ok (.putfield 18, 3) := by decide +kernel
theorem dX1_copyFrom_24 : decode cX1_copyFrom 24 = .ok (.aload_n 0, 1) := by decide +kernel
theorem dX1_copyFrom_25 : decode cX1_copyFrom 25 = .ok (.aload_n 1, 1) := by decide +kernel
theorem dX1_copyFrom_26 : decode cX1_copyFrom 26 = .ok (.getfield 21, 3) := by decide +kernel
theorem dX1_copyFrom_29 : decode cX1_copyFrom 29 = .ok (.putfield 21, 3) := by decide +kernel
theorem dX1_copyFrom_32 : decode cX1_copyFrom 32 = .ok (.aload_n 0, 1) := by decide +kernel
theorem dX1_copyFrom_33 : decode cX1_copyFrom 33 = .ok (.aload_n 1, 1) := by decide +kernel
theorem dX1_copyFrom_34 : decode cX1_copyFrom 34 = .ok (.getfield 24, 3) := by decide +kernel
theorem dX1_copyFrom_37 : decode cX1_copyFrom 37 = .ok (.putfield 24, 3) := by decide +kernel
theorem dX1_copyFrom_40 : decode cX1_copyFrom 40 = .ok (.aload_n 0, 1) := by decide +kernel
theorem dX1_copyFrom_41 : decode cX1_copyFrom 41 = .ok (.aload_n 1, 1) := by decide +kernel
theorem dX1_copyFrom_42 : decode cX1_copyFrom 42 = .ok (.getfield 27, 3) := by decide +kernel
theorem dX1_copyFrom_45 : decode cX1_copyFrom 45 = .ok (.putfield 27, 3) := by decide +kernel
theorem dX1_copyFrom_48 : decode cX1_copyFrom 48 = .ok (.aload_n 0, 1) := by decide +kernel
theorem dX1_copyFrom_49 : decode cX1_copyFrom 49 = .ok (.aload_n 1, 1) := by decide +kernel
theorem dX1_copyFrom_50 : decode cX1_copyFrom 50 = .ok (.getfield 30, 3) := by decide +kernel
theorem dX1_copyFrom_53 : decode cX1_copyFrom 53 = .ok (.putfield 30, 3) := by decide +kernel
theorem dX1_copyFrom_56 : decode cX1_copyFrom 56 = .ok (.return_, 1) := by decide +kernel
theorem dX0_copyFrom_0 : decode cX0_copyFrom 0 = .ok (.iconst 0, 1) := by decide +kernel
theorem dX0_copyFrom_1 : decode cX0_copyFrom 1 = .ok (.istore_n 2, 1) := by decide +kernel
theorem dX0_copyFrom_2 : decode cX0_copyFrom 2 = .ok (.iload_n 2, 1) := by decide +kernel
theorem dX0_copyFrom_3 : decode cX0_copyFrom 3 = .ok (.aload_n 1, 1) := by decide +kernel
theorem dX0_copyFrom_4 : decode cX0_copyFrom 4 = .ok (.getfield 29, 3) := by decide +kernel
theorem dX0_copyFrom_7 : decode cX0_copyFrom 7 = .ok (.if_icmp .ge 24, 3) := by decide +kernel
theorem dX0_copyFrom_31 : decode cX0_copyFrom 31 = .ok (.aload_n 0, 1) := by decide +kernel
theorem dX0_copyFrom_32 : decode cX0_copyFrom 32 = .ok (.aload_n 1, 1) := by decide +kernel
theorem dX0_copyFrom_33 : decode cX0_copyFrom 33 = .ok (.getfield 29, 3) := by decide +kernel
theorem dX0_copyFrom_36 : decode cX0_copyFrom 36 = .ok (.putfield 29, 3) := by decide +kernel
theorem dX0_copyFrom_39 : decode cX0_copyFrom 39 = .ok (.aload_n 0, 1) := by decide +kernel
theorem dX0_copyFrom_40 : decode cX0_copyFrom 40 = .ok (.aload_n 1, 1) := by decide +kernel
theorem dX0_copyFrom_41 : decode cX0_copyFrom 41 = .ok (.getfield 36, 3) := by decide +kernel
theorem dX0_copyFrom_44 : decode cX0_copyFrom 44 = .ok (.putfield 36, 3) := by decide +kernel
theorem dX0_copyFrom_47 : decode cX0_copyFrom 47 = .ok (.aload_n 0, 1) := by decide +kernel
theorem dX0_copyFrom_48 : decode cX0_copyFrom 48 = .ok (.aload_n 1, 1) := by decide +kernel
theorem dX0_copyFrom_49 : decode cX0_copyFrom 49 = .ok (.getfield 17, 3) := by decide +kernel
theorem dX0_copyFrom_52 : decode cX0_copyFrom 52 = .ok (.putfield 17, 3) := by decide +kernel
theorem dX0_copyFrom_55 : decode cX0_copyFrom 55 = .ok (.aload_n 0, 1) := by decide +kernel
theorem dX0_copyFrom_56 : decode cX0_copyFrom 56 = .ok (.aload_n 1, 1) := by decide +kernel
theorem dX0_copyFrom_57 : decode cX0_copyFrom 57 = .ok (.getfield 39, 3) := by decide +kernel
theorem dX0_copyFrom_60 : decode cX0_copyFrom 60 = .ok (.putfield 39, 3) := by decide +kernel
theorem dX0_copyFrom_63 : decode cX0_copyFrom 63 = .ok (.aload_n 0, 1) := by decide +kernel
theorem dX0_copyFrom_64 : decode cX0_copyFrom 64 = .ok (.aload_n 1, 1) := by decide +kernel
theorem dX0_copyFrom_65 : decode cX0_copyFrom 65 = .ok (.getfield 42, 3) := by decide +kernel
theorem dX0_copyFrom_68 : decode cX0_copyFrom 68 = .ok (.putfield 42, 3) := by decide +kernel
theorem dX0_copyFrom_71 : decode cX0_copyFrom 71 = .ok (.aload_n 0, 1) := by decide +kernel
theorem dX0_copyFrom_72 : decode cX0_copyFrom 72 = .ok (.aload_n 1, 1) := by decide +kernel
theorem dX0_copyFrom_73 : decode cX0_copyFrom 73 = .ok (.getfield 45, 3) := by decide +kernel
theorem dX0_copyFrom_76 : decode cX0_copyFrom 76 = .ok (.putfield 45, 3) := by decide +kernel
theorem dX0_copyFrom_79 : decode cX0_copyFrom 79 = .ok (.return_, 1) := by decide +kernel
theorem dX0_copyFrom_10 : decode cX0_copyFrom 10 = .ok (.aload_n 0, 1) := by decide +kernel
theorem dX0_copyFrom_11 : decode cX0_copyFrom 11 = .ok (.getfield 11, 3) := by decide +kernel
theorem dX0_copyFrom_14 : decode cX0_copyFrom 14 = .ok (.iload_n 2, 1) := by decide +kernel
theorem dX0_copyFrom_15 : decode cX0_copyFrom 15 = .ok (.aaload, 1) := by decide +kernel
theorem dX0_copyFrom_16 : decode cX0_copyFrom 16 = .ok (.aload_n 1, 1) := by decide +kernel
theorem dX0_copyFrom_17 : decode cX0_copyFrom 17 = .ok (.getfield 11, 3) := by decide +kernel
theorem dX0_copyFrom_20 : decode cX0_copyFrom 20 = .ok (.iload_n 2, 1) := by decide +kernel
theorem dX0_copyFrom_21 : decode cX0_copyFrom 21 = .ok (.aaload, 1) := by decide +kernel
theorem dX0_copyFrom_22 : decode cX0_copyFrom 22 = .ok (.invokevirtual 32, 3) := by decide +kernel
theorem dX0_copyFrom_25 : decode cX0_copyFrom 25 = .ok (.iinc 2 1, 3) := by decide +kernel
theorem dX0_copyFrom_28 : decode cX0_copyFrom 28 = .ok (.goto (-26), 3) := by decide +kernel
set_option maxRecDepth 100000 in
set_option maxHeartbeats 4000000 in
theorem g_copyOne (l : Launch) (D : va_G) (y : wY) (ad : Nat → Nat) (M : Mem) (c0 : Nat) (hc0 : c0 < 92) (hk0 : kd c0 = 1) (c1 : Nat) (hc1 : c1 < 92) (hk1 : kd c1 = 1) (hne : c0 ≠ c1) (hB : BoolOK (M c1 6)) : MV l D y ad yX1_copyFrom (Cond.code yX1_copyFrom cX1_copyFrom 2 none) 0 M [.ref (ad c0), .ref (ad c1)] (fun M' => sm (fun b _ => b == c0) M M' ∧ ∀ f, f < 7 → M' c0 f = M c1 f) := by
  refine MV_of (by decide) (Nat.le_of_ble_eq_true rfl) ?_
  intro p e s m args below meth c X hr hlocks
  refine j_lv (lv1 := [(0, .ref (ad c0)), (1, .ref (ad c1))]) [0, 1] rfl ?_
  refine j_aload_n X 0 rfl rfl dX1_copyFrom_0 ?_
  refine j_aload_n X 1 rfl rfl dX1_copyFrom_1 ?_
  refine j_get X hc1 (wE_1 _ hk1) rfl awF1 0 (by decide) aw_175 rfl (v := .int (M c1 0)) rfl dX1_copyFrom_2 ?_
  refine j_put X (up M c0 0 (M c1 0)) up_o hc0 (wE_1 _ hk0) rfl awF1 0 (by decide) (wP_1_0 _ _ hk0) tyX1 tyX1_ok nmX1 rfl (ty := .int) (by decide +kernel) rfl rfl (Nat.le_of_ble_eq_true rfl) aw_175 rfl dX1_copyFrom_5 ?_
  refine j_aload_n X 0 rfl rfl dX1_copyFrom_8 ?_
  refine j_aload_n X 1 rfl rfl dX1_copyFrom_9 ?_
  refine j_get X hc1 (wE_1 _ hk1) rfl awF1 1 (by decide) aw_176 rfl (v := .int ((up M c0 0 (M c1 0)) c1 1)) rfl dX1_copyFrom_10 ?_
  refine j_eqi (v := M c1 1) ((up_cell (by omega)).trans rfl) ?_
  refine j_put X (up (up M c0 0 (M c1 0)) c0 1 (M c1 1)) up_o hc0 (wE_1 _ hk0) rfl awF1 1 (by decide) (wP_1_1 _ _ hk0) tyX1 tyX1_ok nmX1 rfl (ty := .int) (by decide +kernel) rfl rfl (Nat.le_of_ble_eq_true rfl) aw_176 rfl dX1_copyFrom_13 ?_
  refine j_aload_n X 0 rfl rfl dX1_copyFrom_16 ?_
  refine j_aload_n X 1 rfl rfl dX1_copyFrom_17 ?_
  refine j_get X hc1 (wE_1 _ hk1) rfl awF1 2 (by decide) aw_270 rfl (v := .int ((up (up M c0 0 (M c1 0)) c0 1 (M c1 1)) c1 2)) rfl dX1_copyFrom_18 ?_
  refine j_eqi (v := M c1 2) ((up_cell (by omega)).trans ((up_cell (by omega)).trans rfl)) ?_
  refine j_put X (up (up (up M c0 0 (M c1 0)) c0 1 (M c1 1)) c0 2 (M c1 2)) up_o hc0 (wE_1 _ hk0) rfl awF1 2 (by decide) (wP_1_2 _ _ hk0) tyX1 tyX1_ok nmX1 rfl (ty := .int) (by decide +kernel) rfl rfl (Nat.le_of_ble_eq_true rfl) aw_270 rfl dX1_copyFrom_21 ?_
  refine j_aload_n X 0 rfl rfl dX1_copyFrom_24 ?_
  refine j_aload_n X 1 rfl rfl dX1_copyFrom_25 ?_
  refine j_get X hc1 (wE_1 _ hk1) rfl awF1 3 (by decide) aw_271 rfl (v := .int ((up (up (up M c0 0 (M c1 0)) c0 1 (M c1 1)) c0 2 (M c1 2)) c1 3)) rfl dX1_copyFrom_26 ?_
  refine j_eqi (v := M c1 3) ((up_cell (by omega)).trans ((up_cell (by omega)).trans ((up_cell (by omega)).trans rfl))) ?_
  refine j_put X (up (up (up (up M c0 0 (M c1 0)) c0 1 (M c1 1)) c0 2 (M c1 2)) c0 3 (M c1 3)) up_o hc0 (wE_1 _ hk0) rfl awF1 3 (by decide) (wP_1_3 _ _ hk0) tyX1 tyX1_ok nmX1 rfl (ty := .int) (by decide +kernel) rfl rfl (Nat.le_of_ble_eq_true rfl) aw_271 rfl dX1_copyFrom_29 ?_
  refine j_aload_n X 0 rfl rfl dX1_copyFrom_32 ?_
  refine j_aload_n X 1 rfl rfl dX1_copyFrom_33 ?_
  refine j_get X hc1 (wE_1 _ hk1) rfl awF1 4 (by decide) aw_543 rfl (v := .int ((up (up (up (up M c0 0 (M c1 0)) c0 1 (M c1 1)) c0 2 (M c1 2)) c0 3 (M c1 3)) c1 4)) rfl dX1_copyFrom_34 ?_
  refine j_eqi (v := M c1 4) ((up_cell (by omega)).trans ((up_cell (by omega)).trans ((up_cell (by omega)).trans ((up_cell (by omega)).trans rfl)))) ?_
  refine j_put X (up (up (up (up (up M c0 0 (M c1 0)) c0 1 (M c1 1)) c0 2 (M c1 2)) c0 3 (M c1 3)) c0 4 (M c1 4)) up_o hc0 (wE_1 _ hk0) rfl awF1 4 (by decide) (wP_1_4 _ _ hk0) tyX1 tyX1_ok nmX1 rfl (ty := .int) (by decide +kernel) rfl rfl (Nat.le_of_ble_eq_true rfl) aw_543 rfl dX1_copyFrom_37 ?_
  refine j_aload_n X 0 rfl rfl dX1_copyFrom_40 ?_
  refine j_aload_n X 1 rfl rfl dX1_copyFrom_41 ?_
  refine j_get X hc1 (wE_1 _ hk1) rfl awF1 5 (by decide) aw_218 rfl (v := .int ((up (up (up (up (up M c0 0 (M c1 0)) c0 1 (M c1 1)) c0 2 (M c1 2)) c0 3 (M c1 3)) c0 4 (M c1 4)) c1 5)) rfl dX1_copyFrom_42 ?_
  refine j_eqi (v := M c1 5) ((up_cell (by omega)).trans ((up_cell (by omega)).trans ((up_cell (by omega)).trans ((up_cell (by omega)).trans ((up_cell (by omega)).trans rfl))))) ?_
  refine j_put X (up (up (up (up (up (up M c0 0 (M c1 0)) c0 1 (M c1 1)) c0 2 (M c1 2)) c0 3 (M c1 3)) c0 4 (M c1 4)) c0 5 (M c1 5)) up_o hc0 (wE_1 _ hk0) rfl awF1 5 (by decide) (wP_1_5 _ _ hk0) tyX1 tyX1_ok nmX1 rfl (ty := .int) (by decide +kernel) rfl rfl (Nat.le_of_ble_eq_true rfl) aw_218 rfl dX1_copyFrom_45 ?_
  refine j_aload_n X 0 rfl rfl dX1_copyFrom_48 ?_
  refine j_aload_n X 1 rfl rfl dX1_copyFrom_49 ?_
  refine j_get X hc1 (wE_1 _ hk1) rfl awF1 6 (by decide) aw_272 rfl (v := .int ((up (up (up (up (up (up M c0 0 (M c1 0)) c0 1 (M c1 1)) c0 2 (M c1 2)) c0 3 (M c1 3)) c0 4 (M c1 4)) c0 5 (M c1 5)) c1 6)) rfl dX1_copyFrom_50 ?_
  refine j_eqi (v := M c1 6) ((up_cell (by omega)).trans ((up_cell (by omega)).trans ((up_cell (by omega)).trans ((up_cell (by omega)).trans ((up_cell (by omega)).trans ((up_cell (by omega)).trans rfl)))))) ?_
  refine j_put X (up (up (up (up (up (up (up M c0 0 (M c1 0)) c0 1 (M c1 1)) c0 2 (M c1 2)) c0 3 (M c1 3)) c0 4 (M c1 4)) c0 5 (M c1 5)) c0 6 (M c1 6)) up_o hc0 (wE_1 _ hk0) rfl awF1 6 (by decide) (wP_1_6 _ _ hk0) tyX1 tyX1_ok nmX1 rfl (ty := .boolean) (by decide +kernel) (nar_bool hB) (fit_bool hB) (Nat.le_of_ble_eq_true rfl) aw_272 rfl dX1_copyFrom_53 ?_
  exact j_vret X hr hlocks dX1_copyFrom_56 ⟨(sm_up (sm_up (sm_up (sm_up (sm_up (sm_up (sm_up sm_rf (by first | rfl | (simp; done) | (simp; omega) | (simp only [Bool.and_eq_true, Bool.or_eq_true, decide_eq_true_eq, beq_iff_eq]; omega))) (by first | rfl | (simp; done) | (simp; omega) | (simp only [Bool.and_eq_true, Bool.or_eq_true, decide_eq_true_eq, beq_iff_eq]; omega))) (by first | rfl | (simp; done) | (simp; omega) | (simp only [Bool.and_eq_true, Bool.or_eq_true, decide_eq_true_eq, beq_iff_eq]; omega))) (by first | rfl | (simp; done) | (simp; omega) | (simp only [Bool.and_eq_true, Bool.or_eq_true, decide_eq_true_eq, beq_iff_eq]; omega))) (by first | rfl | (simp; done) | (simp; omega) | (simp only [Bool.and_eq_true, Bool.or_eq_true, decide_eq_true_eq, beq_iff_eq]; omega))) (by first | rfl | (simp; done) | (simp; omega) | (simp only [Bool.and_eq_true, Bool.or_eq_true, decide_eq_true_eq, beq_iff_eq]; omega))) (by first | rfl | (simp; done) | (simp; omega) | (simp only [Bool.and_eq_true, Bool.or_eq_true, decide_eq_true_eq, beq_iff_eq]; omega))), fun f hf => by rcases (by omega : f = 0 ∨ f = 1 ∨ f = 2 ∨ f = 3 ∨ f = 4 ∨ f = 5 ∨ f = 6) with rfl | rfl | rfl | rfl | rfl | rfl | rfl <;> simp [up, hne]⟩
theorem cp_step {M M1 M2 : Mem} {dB sB i : Nat} (h : ∀ q, q < i → ∀ f, f < 7 → M1 (dB + q) f = M (sB + q) f) (hs : sm (fun b _ => b == dB + i) M1 M2) (hv : ∀ f, f < 7 → M2 (dB + i) f = M1 (sB + i) f) (h1 : ∀ f, M1 (sB + i) f = M (sB + i) f) : ∀ q, q < i + 1 → ∀ f, f < 7 → M2 (dB + q) f = M (sB + q) f := by
  intro q hq f hf
  by_cases e : q = i
  · subst e; rw [hv f hf, h1 f]
  · rw [hs (dB + q) f (by simp; omega)]; exact h q (by omega) f hf
set_option maxRecDepth 100000 in
set_option maxHeartbeats 4000000 in
theorem g_copyGround_49_12 (l : Launch) (D : va_G) (y : wY) (ad : Nat → Nat) (M : Mem) (n : Nat) (hn : n ≤ 9) (hm : M 12 3 = nI n) (hB : ∀ q, q < 9 → BoolOK (M (14 + q) 6)) : MV l D y ad yX0_copyFrom (Cond.code yX0_copyFrom cX0_copyFrom 3 none) 1 M [.ref (ad 49), .ref (ad 12)] (fun M' => sm (fun b k => (b == 49 && decide (3 ≤ k) && decide (k ≤ 8)) || (decide (51 ≤ b) && decide (b ≤ 59))) M M' ∧ (∀ q, q < n → ∀ f, f < 7 → M' (51 + q) f = M (14 + q) f) ∧ (∀ f, 3 ≤ f → f ≤ 8 → M' 49 f = M 12 f)) := by
  refine MV_of (by decide) (Nat.le_of_ble_eq_true rfl) ?_
  intro p e s m args below meth c X hr hlocks
  refine j_lv (lv1 := [(0, .ref (ad 49)), (1, .ref (ad 12))]) [0, 1] rfl ?_
  refine j_iconst X (v := 0) (by decide) dX0_copyFrom_0 ?_
  refine j_istore_n X [(2, .int 0), (0, .ref (ad 49)), (1, .ref (ad 12))] rfl (by decide) rfl dX0_copyFrom_1 ?_
  have loop1 : ∀ (n_1 i_1 : Nat) (M1 : Mem), i_1 ≤ n → n - i_1 < n_1 → sm (fun b k => (b == 49 && decide (3 ≤ k) && decide (k ≤ 8)) || (decide (51 ≤ b) && decide (b ≤ 59))) M M1 → (∀ q, q < i_1 → ∀ f, f < 7 → M1 (51 + q) f = M (14 + q) f) → J p l e (rmN 1) s m args below meth c 0 0 (QV (fun M' => sm (fun b k => (b == 49 && decide (3 ≤ k) && decide (k ≤ 8)) || (decide (51 ≤ b) && decide (b ≤ 59))) M M' ∧ (∀ q, q < n → ∀ f, f < 7 → M' (51 + q) f = M (14 + q) f) ∧ (∀ f, 3 ≤ f → f ≤ 8 → M' 49 f = M 12 f)) D y ad M s args below) D y ad (va_A (PL y ad M) s.heap.size) 3 M1 2 [(2, .int (nI i_1)), (0, .ref (ad 49)), (1, .ref (ad 12))] [] := by
    intro n_1
    induction n_1 with
    | zero => intro i_1 M1 h1 h2; exact absurd h2 (by omega)
    | succ n_1 ih1 =>
      intro i_1 M1 h1i_1 h2i_1 hs1 hvi_1
      refine j_iload_n X 0 rfl rfl dX0_copyFrom_2 ?_
      refine j_aload_n X 2 rfl rfl dX0_copyFrom_3 ?_
      refine j_get X (by decide) (wE_0 _ rfl) rfl awF0 3 (by decide) aw_155 rfl (v := .int (M1 12 3)) rfl dX0_copyFrom_4 ?_
      refine j_eqi (v := (nI n)) ((hs1 12 3 rfl).trans hm) ?_
      refine j_icmp_ge X 31 (by decide) dX0_copyFrom_7 (fun c_2 => ?_) (fun c_2 => ?_)
      · have c_2 := (nI_leI (by omega) (by omega)).mp (show nI (n) ≤ nI i_1 from c_2)
        refine j_aload_n X 1 rfl rfl dX0_copyFrom_31 ?_
        refine j_aload_n X 2 rfl rfl dX0_copyFrom_32 ?_
        refine j_get X (by decide) (wE_0 _ rfl) rfl awF0 3 (by decide) aw_155 rfl (v := .int (M1 12 3)) rfl dX0_copyFrom_33 ?_
        refine j_eqi (v := (nI n)) ((hs1 12 3 rfl).trans hm) ?_
        refine j_put X (up M1 49 3 (nI n)) up_o (by decide) (wE_0 _ rfl) rfl awF0 3 (by decide) (wP_0_3 _ _ rfl) tyX0 tyX0_ok nmX0 rfl (ty := .int) (by decide +kernel) rfl rfl (Nat.le_of_ble_eq_true rfl) aw_155 rfl dX0_copyFrom_36 ?_
        refine j_aload_n X 1 rfl rfl dX0_copyFrom_39 ?_
        refine j_aload_n X 2 rfl rfl dX0_copyFrom_40 ?_
        refine j_get X (by decide) (wE_0 _ rfl) rfl awF0 4 (by decide) aw_124 rfl (v := .int ((up M1 49 3 (nI n)) 12 4)) rfl dX0_copyFrom_41 ?_
        refine j_eqi (v := M1 12 4) ((up_cell (by omega)).trans rfl) ?_
        refine j_put X (up (up M1 49 3 (nI n)) 49 4 (M1 12 4)) up_o (by decide) (wE_0 _ rfl) rfl awF0 4 (by decide) (wP_0_4 _ _ rfl) tyX0 tyX0_ok nmX0 rfl (ty := .int) (by decide +kernel) rfl rfl (Nat.le_of_ble_eq_true rfl) aw_124 rfl dX0_copyFrom_44 ?_
        refine j_aload_n X 1 rfl rfl dX0_copyFrom_47 ?_
        refine j_aload_n X 2 rfl rfl dX0_copyFrom_48 ?_
        refine j_get X (by decide) (wE_0 _ rfl) rfl awF0 5 (by decide) aw_61 rfl (v := .int ((up (up M1 49 3 (nI n)) 49 4 (M1 12 4)) 12 5)) rfl dX0_copyFrom_49 ?_
        refine j_eqi (v := M1 12 5) ((up_cell (by omega)).trans ((up_cell (by omega)).trans rfl)) ?_
        refine j_put X (up (up (up M1 49 3 (nI n)) 49 4 (M1 12 4)) 49 5 (M1 12 5)) up_o (by decide) (wE_0 _ rfl) rfl awF0 5 (by decide) (wP_0_5 _ _ rfl) tyX0 tyX0_ok nmX0 rfl (ty := .int) (by decide +kernel) rfl rfl (Nat.le_of_ble_eq_true rfl) aw_61 rfl dX0_copyFrom_52 ?_
        refine j_aload_n X 1 rfl rfl dX0_copyFrom_55 ?_
        refine j_aload_n X 2 rfl rfl dX0_copyFrom_56 ?_
        refine j_get X (by decide) (wE_0 _ rfl) rfl awF0 6 (by decide) aw_197 rfl (v := .int ((up (up (up M1 49 3 (nI n)) 49 4 (M1 12 4)) 49 5 (M1 12 5)) 12 6)) rfl dX0_copyFrom_57 ?_
        refine j_eqi (v := M1 12 6) ((up_cell (by omega)).trans ((up_cell (by omega)).trans ((up_cell (by omega)).trans rfl))) ?_
        refine j_put X (up (up (up (up M1 49 3 (nI n)) 49 4 (M1 12 4)) 49 5 (M1 12 5)) 49 6 (M1 12 6)) up_o (by decide) (wE_0 _ rfl) rfl awF0 6 (by decide) (wP_0_6 _ _ rfl) tyX0 tyX0_ok nmX0 rfl (ty := .int) (by decide +kernel) rfl rfl (Nat.le_of_ble_eq_true rfl) aw_197 rfl dX0_copyFrom_60 ?_
        refine j_aload_n X 1 rfl rfl dX0_copyFrom_63 ?_
        refine j_aload_n X 2 rfl rfl dX0_copyFrom_64 ?_
        refine j_get X (by decide) (wE_0 _ rfl) rfl awF0 7 (by decide) aw_125 rfl (v := .int ((up (up (up (up M1 49 3 (nI n)) 49 4 (M1 12 4)) 49 5 (M1 12 5)) 49 6 (M1 12 6)) 12 7)) rfl dX0_copyFrom_65 ?_
        refine j_eqi (v := M1 12 7) ((up_cell (by omega)).trans ((up_cell (by omega)).trans ((up_cell (by omega)).trans ((up_cell (by omega)).trans rfl)))) ?_
        refine j_put X (up (up (up (up (up M1 49 3 (nI n)) 49 4 (M1 12 4)) 49 5 (M1 12 5)) 49 6 (M1 12 6)) 49 7 (M1 12 7)) up_o (by decide) (wE_0 _ rfl) rfl awF0 7 (by decide) (wP_0_7 _ _ rfl) tyX0 tyX0_ok nmX0 rfl (ty := .int) (by decide +kernel) rfl rfl (Nat.le_of_ble_eq_true rfl) aw_125 rfl dX0_copyFrom_68 ?_
        refine j_aload_n X 1 rfl rfl dX0_copyFrom_71 ?_
        refine j_aload_n X 2 rfl rfl dX0_copyFrom_72 ?_
        refine j_get X (by decide) (wE_0 _ rfl) rfl awF0 8 (by decide) aw_126 rfl (v := .int ((up (up (up (up (up M1 49 3 (nI n)) 49 4 (M1 12 4)) 49 5 (M1 12 5)) 49 6 (M1 12 6)) 49 7 (M1 12 7)) 12 8)) rfl dX0_copyFrom_73 ?_
        refine j_eqi (v := M1 12 8) ((up_cell (by omega)).trans ((up_cell (by omega)).trans ((up_cell (by omega)).trans ((up_cell (by omega)).trans ((up_cell (by omega)).trans rfl))))) ?_
        refine j_put X (up (up (up (up (up (up M1 49 3 (nI n)) 49 4 (M1 12 4)) 49 5 (M1 12 5)) 49 6 (M1 12 6)) 49 7 (M1 12 7)) 49 8 (M1 12 8)) up_o (by decide) (wE_0 _ rfl) rfl awF0 8 (by decide) (wP_0_8 _ _ rfl) tyX0 tyX0_ok nmX0 rfl (ty := .int) (by decide +kernel) rfl rfl (Nat.le_of_ble_eq_true rfl) aw_126 rfl dX0_copyFrom_76 ?_
        exact j_vret X hr hlocks dX0_copyFrom_79 ⟨(sm_up (sm_up (sm_up (sm_up (sm_up (sm_up (sm_tr sm_rf (sm_w hs1 (by intro b k hb; first | rfl | exact hb | (simp only [Bool.or_eq_false_iff, Bool.and_eq_false_iff, beq_eq_false_iff_ne, ne_eq, decide_eq_false_iff_not] at hb ⊢; omega)))) rfl) rfl) rfl) rfl) rfl) rfl), fun q hq f hf => by rw [up_cell (by omega), up_cell (by omega), up_cell (by omega), up_cell (by omega), up_cell (by omega), up_cell (by omega)]; exact hvi_1 q (by omega) f hf, fun f h3 h8 => by rcases (by omega : f = 3 ∨ f = 4 ∨ f = 5 ∨ f = 6 ∨ f = 7 ∨ f = 8) with rfl | rfl | rfl | rfl | rfl | rfl <;> simp [up] <;> first | exact hs1 12 _ rfl | exact hm.symm | rfl⟩
      · have c_2 : i_1 < n := by
          rcases Nat.lt_or_ge i_1 (n) with g | g
          · exact g
          · exact absurd (show nI (n) ≤ nI i_1 from nI_le g (by omega)) c_2
        refine j_aload_n X 1 rfl rfl dX0_copyFrom_10 ?_
        refine j_get X (by decide) (wE_0 _ rfl) rfl awF0 2 (by decide) aw_60 rfl (v := .ref (ad 50)) rfl dX0_copyFrom_11 ?_
        refine j_iload_n X 0 rfl rfl dX0_copyFrom_14 ?_
        refine j_aald10 X (by decide) rfl (show vp_in (nI i_1) 9 from vp_in_nI (by omega) (by decide)) dX0_copyFrom_15 ?_
        refine j_eqr (v := 51 + i_1) (by rw [nI_clamp (by omega)]; exact rf_one49 (by omega)) ?_
        refine j_aload_n X 2 rfl rfl dX0_copyFrom_16 ?_
        refine j_get X (by decide) (wE_0 _ rfl) rfl awF0 2 (by decide) aw_60 rfl (v := .ref (ad 13)) rfl dX0_copyFrom_17 ?_
        refine j_iload_n X 0 rfl rfl dX0_copyFrom_20 ?_
        refine j_aald10 X (by decide) rfl (show vp_in (nI i_1) 9 from vp_in_nI (by omega) (by decide)) dX0_copyFrom_21 ?_
        refine j_eqr (v := 14 + i_1) (by rw [nI_clamp (by omega)]; exact rf_one12 (by omega)) ?_
        refine j_callVNV X (nn := 1) (As := [.ref (ad (14 + i_1))]) (st := []) (ci := 1) (by omega) (wE_1 _ (kd_one49 (by omega))) rfl aw_540 aw_541 (g_copyOne l D y ad M1 (51 + i_1) (by omega) (kd_one49 (by omega)) (14 + i_1) (by omega) (kd_one12 (by omega)) (by omega) (by rw [hs1 (14 + i_1) 6 (by simp only [Bool.or_eq_false_iff, Bool.and_eq_false_iff, beq_eq_false_iff_ne, ne_eq, decide_eq_false_iff_not]; omega)]; exact hB _ (by omega))) (List.mem_of_getElem? (i := 34) rfl) aw_542 aw_65 (by decide +kernel) ⟨by decide, by decide⟩ rfl (Nat.le_of_ble_eq_true rfl) ⟨by decide, by decide⟩ dX0_copyFrom_22 ?_
        rintro M_4 ⟨s_3, s_3_v⟩
        refine j_iinc X (v := (nI (i_1 + 1))) 0 [(2, .int (nI (i_1 + 1))), (0, .ref (ad 49)), (1, .ref (ad 12))] rfl (show nI i_1 + Int32.ofInt 1 = _ from nI_1 i_1) (by decide) rfl dX0_copyFrom_25 ?_
        refine j_goto X 2 (by decide) dX0_copyFrom_28 ?_
        refine j_lv (lv1 := [(2, .int (nI (i_1 + 1))), (0, .ref (ad 49)), (1, .ref (ad 12))]) [0, 1, 2] rfl ?_
        exact ih1 (i_1 + 1) _ (by omega) (by omega) (sm_tr hs1 (sm_w s_3 (by intro b k hb; first | rfl | exact hb | (simp only [Bool.or_eq_false_iff, Bool.and_eq_false_iff, beq_eq_false_iff_ne, ne_eq, decide_eq_false_iff_not] at hb ⊢; omega)))) (cp_step hvi_1 s_3 s_3_v (fun f => hs1 (14 + i_1) f (by simp only [Bool.or_eq_false_iff, Bool.and_eq_false_iff, beq_eq_false_iff_ne, ne_eq, decide_eq_false_iff_not]; omega)))
  refine j_lv (lv1 := [(2, .int (nI 0)), (0, .ref (ad 49)), (1, .ref (ad 12))]) [0, 1, 2] rfl ?_
  exact loop1 (n + 1) 0 _ (by omega) (by omega) sm_rf (fun q hq => absurd hq (by omega))
set_option maxRecDepth 100000 in
set_option maxHeartbeats 4000000 in
theorem g_copyGround_36_12 (l : Launch) (D : va_G) (y : wY) (ad : Nat → Nat) (M : Mem) (n : Nat) (hn : n ≤ 9) (hm : M 12 3 = nI n) (hB : ∀ q, q < 9 → BoolOK (M (14 + q) 6)) : MV l D y ad yX0_copyFrom (Cond.code yX0_copyFrom cX0_copyFrom 3 none) 1 M [.ref (ad 36), .ref (ad 12)] (fun M' => sm (fun b k => (b == 36 && decide (3 ≤ k) && decide (k ≤ 8)) || (decide (38 ≤ b) && decide (b ≤ 46))) M M' ∧ (∀ q, q < n → ∀ f, f < 7 → M' (38 + q) f = M (14 + q) f) ∧ (∀ f, 3 ≤ f → f ≤ 8 → M' 36 f = M 12 f)) := by
  refine MV_of (by decide) (Nat.le_of_ble_eq_true rfl) ?_
  intro p e s m args below meth c X hr hlocks
  refine j_lv (lv1 := [(0, .ref (ad 36)), (1, .ref (ad 12))]) [0, 1] rfl ?_
  refine j_iconst X (v := 0) (by decide) dX0_copyFrom_0 ?_
  refine j_istore_n X [(2, .int 0), (0, .ref (ad 36)), (1, .ref (ad 12))] rfl (by decide) rfl dX0_copyFrom_1 ?_
  have loop1 : ∀ (n_1 i_1 : Nat) (M1 : Mem), i_1 ≤ n → n - i_1 < n_1 → sm (fun b k => (b == 36 && decide (3 ≤ k) && decide (k ≤ 8)) || (decide (38 ≤ b) && decide (b ≤ 46))) M M1 → (∀ q, q < i_1 → ∀ f, f < 7 → M1 (38 + q) f = M (14 + q) f) → J p l e (rmN 1) s m args below meth c 0 0 (QV (fun M' => sm (fun b k => (b == 36 && decide (3 ≤ k) && decide (k ≤ 8)) || (decide (38 ≤ b) && decide (b ≤ 46))) M M' ∧ (∀ q, q < n → ∀ f, f < 7 → M' (38 + q) f = M (14 + q) f) ∧ (∀ f, 3 ≤ f → f ≤ 8 → M' 36 f = M 12 f)) D y ad M s args below) D y ad (va_A (PL y ad M) s.heap.size) 3 M1 2 [(2, .int (nI i_1)), (0, .ref (ad 36)), (1, .ref (ad 12))] [] := by
    intro n_1
    induction n_1 with
    | zero => intro i_1 M1 h1 h2; exact absurd h2 (by omega)
    | succ n_1 ih1 =>
      intro i_1 M1 h1i_1 h2i_1 hs1 hvi_1
      refine j_iload_n X 0 rfl rfl dX0_copyFrom_2 ?_
      refine j_aload_n X 2 rfl rfl dX0_copyFrom_3 ?_
      refine j_get X (by decide) (wE_0 _ rfl) rfl awF0 3 (by decide) aw_155 rfl (v := .int (M1 12 3)) rfl dX0_copyFrom_4 ?_
      refine j_eqi (v := (nI n)) ((hs1 12 3 rfl).trans hm) ?_
      refine j_icmp_ge X 31 (by decide) dX0_copyFrom_7 (fun c_2 => ?_) (fun c_2 => ?_)
      · have c_2 := (nI_leI (by omega) (by omega)).mp (show nI (n) ≤ nI i_1 from c_2)
        refine j_aload_n X 1 rfl rfl dX0_copyFrom_31 ?_
        refine j_aload_n X 2 rfl rfl dX0_copyFrom_32 ?_
        refine j_get X (by decide) (wE_0 _ rfl) rfl awF0 3 (by decide) aw_155 rfl (v := .int (M1 12 3)) rfl dX0_copyFrom_33 ?_
        refine j_eqi (v := (nI n)) ((hs1 12 3 rfl).trans hm) ?_
        refine j_put X (up M1 36 3 (nI n)) up_o (by decide) (wE_0 _ rfl) rfl awF0 3 (by decide) (wP_0_3 _ _ rfl) tyX0 tyX0_ok nmX0 rfl (ty := .int) (by decide +kernel) rfl rfl (Nat.le_of_ble_eq_true rfl) aw_155 rfl dX0_copyFrom_36 ?_
        refine j_aload_n X 1 rfl rfl dX0_copyFrom_39 ?_
        refine j_aload_n X 2 rfl rfl dX0_copyFrom_40 ?_
        refine j_get X (by decide) (wE_0 _ rfl) rfl awF0 4 (by decide) aw_124 rfl (v := .int ((up M1 36 3 (nI n)) 12 4)) rfl dX0_copyFrom_41 ?_
        refine j_eqi (v := M1 12 4) ((up_cell (by omega)).trans rfl) ?_
        refine j_put X (up (up M1 36 3 (nI n)) 36 4 (M1 12 4)) up_o (by decide) (wE_0 _ rfl) rfl awF0 4 (by decide) (wP_0_4 _ _ rfl) tyX0 tyX0_ok nmX0 rfl (ty := .int) (by decide +kernel) rfl rfl (Nat.le_of_ble_eq_true rfl) aw_124 rfl dX0_copyFrom_44 ?_
        refine j_aload_n X 1 rfl rfl dX0_copyFrom_47 ?_
        refine j_aload_n X 2 rfl rfl dX0_copyFrom_48 ?_
        refine j_get X (by decide) (wE_0 _ rfl) rfl awF0 5 (by decide) aw_61 rfl (v := .int ((up (up M1 36 3 (nI n)) 36 4 (M1 12 4)) 12 5)) rfl dX0_copyFrom_49 ?_
        refine j_eqi (v := M1 12 5) ((up_cell (by omega)).trans ((up_cell (by omega)).trans rfl)) ?_
        refine j_put X (up (up (up M1 36 3 (nI n)) 36 4 (M1 12 4)) 36 5 (M1 12 5)) up_o (by decide) (wE_0 _ rfl) rfl awF0 5 (by decide) (wP_0_5 _ _ rfl) tyX0 tyX0_ok nmX0 rfl (ty := .int) (by decide +kernel) rfl rfl (Nat.le_of_ble_eq_true rfl) aw_61 rfl dX0_copyFrom_52 ?_
        refine j_aload_n X 1 rfl rfl dX0_copyFrom_55 ?_
        refine j_aload_n X 2 rfl rfl dX0_copyFrom_56 ?_
        refine j_get X (by decide) (wE_0 _ rfl) rfl awF0 6 (by decide) aw_197 rfl (v := .int ((up (up (up M1 36 3 (nI n)) 36 4 (M1 12 4)) 36 5 (M1 12 5)) 12 6)) rfl dX0_copyFrom_57 ?_
        refine j_eqi (v := M1 12 6) ((up_cell (by omega)).trans ((up_cell (by omega)).trans ((up_cell (by omega)).trans rfl))) ?_
        refine j_put X (up (up (up (up M1 36 3 (nI n)) 36 4 (M1 12 4)) 36 5 (M1 12 5)) 36 6 (M1 12 6)) up_o (by decide) (wE_0 _ rfl) rfl awF0 6 (by decide) (wP_0_6 _ _ rfl) tyX0 tyX0_ok nmX0 rfl (ty := .int) (by decide +kernel) rfl rfl (Nat.le_of_ble_eq_true rfl) aw_197 rfl dX0_copyFrom_60 ?_
        refine j_aload_n X 1 rfl rfl dX0_copyFrom_63 ?_
        refine j_aload_n X 2 rfl rfl dX0_copyFrom_64 ?_
        refine j_get X (by decide) (wE_0 _ rfl) rfl awF0 7 (by decide) aw_125 rfl (v := .int ((up (up (up (up M1 36 3 (nI n)) 36 4 (M1 12 4)) 36 5 (M1 12 5)) 36 6 (M1 12 6)) 12 7)) rfl dX0_copyFrom_65 ?_
        refine j_eqi (v := M1 12 7) ((up_cell (by omega)).trans ((up_cell (by omega)).trans ((up_cell (by omega)).trans ((up_cell (by omega)).trans rfl)))) ?_
        refine j_put X (up (up (up (up (up M1 36 3 (nI n)) 36 4 (M1 12 4)) 36 5 (M1 12 5)) 36 6 (M1 12 6)) 36 7 (M1 12 7)) up_o (by decide) (wE_0 _ rfl) rfl awF0 7 (by decide) (wP_0_7 _ _ rfl) tyX0 tyX0_ok nmX0 rfl (ty := .int) (by decide +kernel) rfl rfl (Nat.le_of_ble_eq_true rfl) aw_125 rfl dX0_copyFrom_68 ?_
        refine j_aload_n X 1 rfl rfl dX0_copyFrom_71 ?_
        refine j_aload_n X 2 rfl rfl dX0_copyFrom_72 ?_
        refine j_get X (by decide) (wE_0 _ rfl) rfl awF0 8 (by decide) aw_126 rfl (v := .int ((up (up (up (up (up M1 36 3 (nI n)) 36 4 (M1 12 4)) 36 5 (M1 12 5)) 36 6 (M1 12 6)) 36 7 (M1 12 7)) 12 8)) rfl dX0_copyFrom_73 ?_
        refine j_eqi (v := M1 12 8) ((up_cell (by omega)).trans ((up_cell (by omega)).trans ((up_cell (by omega)).trans ((up_cell (by omega)).trans ((up_cell (by omega)).trans rfl))))) ?_
        refine j_put X (up (up (up (up (up (up M1 36 3 (nI n)) 36 4 (M1 12 4)) 36 5 (M1 12 5)) 36 6 (M1 12 6)) 36 7 (M1 12 7)) 36 8 (M1 12 8)) up_o (by decide) (wE_0 _ rfl) rfl awF0 8 (by decide) (wP_0_8 _ _ rfl) tyX0 tyX0_ok nmX0 rfl (ty := .int) (by decide +kernel) rfl rfl (Nat.le_of_ble_eq_true rfl) aw_126 rfl dX0_copyFrom_76 ?_
        exact j_vret X hr hlocks dX0_copyFrom_79 ⟨(sm_up (sm_up (sm_up (sm_up (sm_up (sm_up (sm_tr sm_rf (sm_w hs1 (by intro b k hb; first | rfl | exact hb | (simp only [Bool.or_eq_false_iff, Bool.and_eq_false_iff, beq_eq_false_iff_ne, ne_eq, decide_eq_false_iff_not] at hb ⊢; omega)))) rfl) rfl) rfl) rfl) rfl) rfl), fun q hq f hf => by rw [up_cell (by omega), up_cell (by omega), up_cell (by omega), up_cell (by omega), up_cell (by omega), up_cell (by omega)]; exact hvi_1 q (by omega) f hf, fun f h3 h8 => by rcases (by omega : f = 3 ∨ f = 4 ∨ f = 5 ∨ f = 6 ∨ f = 7 ∨ f = 8) with rfl | rfl | rfl | rfl | rfl | rfl <;> simp [up] <;> first | exact hs1 12 _ rfl | exact hm.symm | rfl⟩
      · have c_2 : i_1 < n := by
          rcases Nat.lt_or_ge i_1 (n) with g | g
          · exact g
          · exact absurd (show nI (n) ≤ nI i_1 from nI_le g (by omega)) c_2
        refine j_aload_n X 1 rfl rfl dX0_copyFrom_10 ?_
        refine j_get X (by decide) (wE_0 _ rfl) rfl awF0 2 (by decide) aw_60 rfl (v := .ref (ad 37)) rfl dX0_copyFrom_11 ?_
        refine j_iload_n X 0 rfl rfl dX0_copyFrom_14 ?_
        refine j_aald10 X (by decide) rfl (show vp_in (nI i_1) 9 from vp_in_nI (by omega) (by decide)) dX0_copyFrom_15 ?_
        refine j_eqr (v := 38 + i_1) (by rw [nI_clamp (by omega)]; exact rf_one36 (by omega)) ?_
        refine j_aload_n X 2 rfl rfl dX0_copyFrom_16 ?_
        refine j_get X (by decide) (wE_0 _ rfl) rfl awF0 2 (by decide) aw_60 rfl (v := .ref (ad 13)) rfl dX0_copyFrom_17 ?_
        refine j_iload_n X 0 rfl rfl dX0_copyFrom_20 ?_
        refine j_aald10 X (by decide) rfl (show vp_in (nI i_1) 9 from vp_in_nI (by omega) (by decide)) dX0_copyFrom_21 ?_
        refine j_eqr (v := 14 + i_1) (by rw [nI_clamp (by omega)]; exact rf_one12 (by omega)) ?_
        refine j_callVNV X (nn := 1) (As := [.ref (ad (14 + i_1))]) (st := []) (ci := 1) (by omega) (wE_1 _ (kd_one36 (by omega))) rfl aw_540 aw_541 (g_copyOne l D y ad M1 (38 + i_1) (by omega) (kd_one36 (by omega)) (14 + i_1) (by omega) (kd_one12 (by omega)) (by omega) (by rw [hs1 (14 + i_1) 6 (by simp only [Bool.or_eq_false_iff, Bool.and_eq_false_iff, beq_eq_false_iff_ne, ne_eq, decide_eq_false_iff_not]; omega)]; exact hB _ (by omega))) (List.mem_of_getElem? (i := 34) rfl) aw_542 aw_65 (by decide +kernel) ⟨by decide, by decide⟩ rfl (Nat.le_of_ble_eq_true rfl) ⟨by decide, by decide⟩ dX0_copyFrom_22 ?_
        rintro M_4 ⟨s_3, s_3_v⟩
        refine j_iinc X (v := (nI (i_1 + 1))) 0 [(2, .int (nI (i_1 + 1))), (0, .ref (ad 36)), (1, .ref (ad 12))] rfl (show nI i_1 + Int32.ofInt 1 = _ from nI_1 i_1) (by decide) rfl dX0_copyFrom_25 ?_
        refine j_goto X 2 (by decide) dX0_copyFrom_28 ?_
        refine j_lv (lv1 := [(2, .int (nI (i_1 + 1))), (0, .ref (ad 36)), (1, .ref (ad 12))]) [0, 1, 2] rfl ?_
        exact ih1 (i_1 + 1) _ (by omega) (by omega) (sm_tr hs1 (sm_w s_3 (by intro b k hb; first | rfl | exact hb | (simp only [Bool.or_eq_false_iff, Bool.and_eq_false_iff, beq_eq_false_iff_ne, ne_eq, decide_eq_false_iff_not] at hb ⊢; omega)))) (cp_step hvi_1 s_3 s_3_v (fun f => hs1 (14 + i_1) f (by simp only [Bool.or_eq_false_iff, Bool.and_eq_false_iff, beq_eq_false_iff_ne, ne_eq, decide_eq_false_iff_not]; omega)))
  refine j_lv (lv1 := [(2, .int (nI 0)), (0, .ref (ad 36)), (1, .ref (ad 12))]) [0, 1, 2] rfl ?_
  exact loop1 (n + 1) 0 _ (by omega) (by omega) sm_rf (fun q hq => absurd hq (by omega))
set_option maxRecDepth 100000 in
set_option maxHeartbeats 4000000 in
theorem g_copyGround_12_36 (l : Launch) (D : va_G) (y : wY) (ad : Nat → Nat) (M : Mem) (n : Nat) (hn : n ≤ 9) (hm : M 36 3 = nI n) (hB : ∀ q, q < 9 → BoolOK (M (38 + q) 6)) : MV l D y ad yX0_copyFrom (Cond.code yX0_copyFrom cX0_copyFrom 3 none) 1 M [.ref (ad 12), .ref (ad 36)] (fun M' => sm (fun b k => (b == 12 && decide (3 ≤ k) && decide (k ≤ 8)) || (decide (14 ≤ b) && decide (b ≤ 22))) M M' ∧ (∀ q, q < n → ∀ f, f < 7 → M' (14 + q) f = M (38 + q) f) ∧ (∀ f, 3 ≤ f → f ≤ 8 → M' 12 f = M 36 f)) := by
  refine MV_of (by decide) (Nat.le_of_ble_eq_true rfl) ?_
  intro p e s m args below meth c X hr hlocks
  refine j_lv (lv1 := [(0, .ref (ad 12)), (1, .ref (ad 36))]) [0, 1] rfl ?_
  refine j_iconst X (v := 0) (by decide) dX0_copyFrom_0 ?_
  refine j_istore_n X [(2, .int 0), (0, .ref (ad 12)), (1, .ref (ad 36))] rfl (by decide) rfl dX0_copyFrom_1 ?_
  have loop1 : ∀ (n_1 i_1 : Nat) (M1 : Mem), i_1 ≤ n → n - i_1 < n_1 → sm (fun b k => (b == 12 && decide (3 ≤ k) && decide (k ≤ 8)) || (decide (14 ≤ b) && decide (b ≤ 22))) M M1 → (∀ q, q < i_1 → ∀ f, f < 7 → M1 (14 + q) f = M (38 + q) f) → J p l e (rmN 1) s m args below meth c 0 0 (QV (fun M' => sm (fun b k => (b == 12 && decide (3 ≤ k) && decide (k ≤ 8)) || (decide (14 ≤ b) && decide (b ≤ 22))) M M' ∧ (∀ q, q < n → ∀ f, f < 7 → M' (14 + q) f = M (38 + q) f) ∧ (∀ f, 3 ≤ f → f ≤ 8 → M' 12 f = M 36 f)) D y ad M s args below) D y ad (va_A (PL y ad M) s.heap.size) 3 M1 2 [(2, .int (nI i_1)), (0, .ref (ad 12)), (1, .ref (ad 36))] [] := by
    intro n_1
    induction n_1 with
    | zero => intro i_1 M1 h1 h2; exact absurd h2 (by omega)
    | succ n_1 ih1 =>
      intro i_1 M1 h1i_1 h2i_1 hs1 hvi_1
      refine j_iload_n X 0 rfl rfl dX0_copyFrom_2 ?_
      refine j_aload_n X 2 rfl rfl dX0_copyFrom_3 ?_
      refine j_get X (by decide) (wE_0 _ rfl) rfl awF0 3 (by decide) aw_155 rfl (v := .int (M1 36 3)) rfl dX0_copyFrom_4 ?_
      refine j_eqi (v := (nI n)) ((hs1 36 3 rfl).trans hm) ?_
      refine j_icmp_ge X 31 (by decide) dX0_copyFrom_7 (fun c_2 => ?_) (fun c_2 => ?_)
      · have c_2 := (nI_leI (by omega) (by omega)).mp (show nI (n) ≤ nI i_1 from c_2)
        refine j_aload_n X 1 rfl rfl dX0_copyFrom_31 ?_
        refine j_aload_n X 2 rfl rfl dX0_copyFrom_32 ?_
        refine j_get X (by decide) (wE_0 _ rfl) rfl awF0 3 (by decide) aw_155 rfl (v := .int (M1 36 3)) rfl dX0_copyFrom_33 ?_
        refine j_eqi (v := (nI n)) ((hs1 36 3 rfl).trans hm) ?_
        refine j_put X (up M1 12 3 (nI n)) up_o (by decide) (wE_0 _ rfl) rfl awF0 3 (by decide) (wP_0_3 _ _ rfl) tyX0 tyX0_ok nmX0 rfl (ty := .int) (by decide +kernel) rfl rfl (Nat.le_of_ble_eq_true rfl) aw_155 rfl dX0_copyFrom_36 ?_
        refine j_aload_n X 1 rfl rfl dX0_copyFrom_39 ?_
        refine j_aload_n X 2 rfl rfl dX0_copyFrom_40 ?_
        refine j_get X (by decide) (wE_0 _ rfl) rfl awF0 4 (by decide) aw_124 rfl (v := .int ((up M1 12 3 (nI n)) 36 4)) rfl dX0_copyFrom_41 ?_
        refine j_eqi (v := M1 36 4) ((up_cell (by omega)).trans rfl) ?_
        refine j_put X (up (up M1 12 3 (nI n)) 12 4 (M1 36 4)) up_o (by decide) (wE_0 _ rfl) rfl awF0 4 (by decide) (wP_0_4 _ _ rfl) tyX0 tyX0_ok nmX0 rfl (ty := .int) (by decide +kernel) rfl rfl (Nat.le_of_ble_eq_true rfl) aw_124 rfl dX0_copyFrom_44 ?_
        refine j_aload_n X 1 rfl rfl dX0_copyFrom_47 ?_
        refine j_aload_n X 2 rfl rfl dX0_copyFrom_48 ?_
        refine j_get X (by decide) (wE_0 _ rfl) rfl awF0 5 (by decide) aw_61 rfl (v := .int ((up (up M1 12 3 (nI n)) 12 4 (M1 36 4)) 36 5)) rfl dX0_copyFrom_49 ?_
        refine j_eqi (v := M1 36 5) ((up_cell (by omega)).trans ((up_cell (by omega)).trans rfl)) ?_
        refine j_put X (up (up (up M1 12 3 (nI n)) 12 4 (M1 36 4)) 12 5 (M1 36 5)) up_o (by decide) (wE_0 _ rfl) rfl awF0 5 (by decide) (wP_0_5 _ _ rfl) tyX0 tyX0_ok nmX0 rfl (ty := .int) (by decide +kernel) rfl rfl (Nat.le_of_ble_eq_true rfl) aw_61 rfl dX0_copyFrom_52 ?_
        refine j_aload_n X 1 rfl rfl dX0_copyFrom_55 ?_
        refine j_aload_n X 2 rfl rfl dX0_copyFrom_56 ?_
        refine j_get X (by decide) (wE_0 _ rfl) rfl awF0 6 (by decide) aw_197 rfl (v := .int ((up (up (up M1 12 3 (nI n)) 12 4 (M1 36 4)) 12 5 (M1 36 5)) 36 6)) rfl dX0_copyFrom_57 ?_
        refine j_eqi (v := M1 36 6) ((up_cell (by omega)).trans ((up_cell (by omega)).trans ((up_cell (by omega)).trans rfl))) ?_
        refine j_put X (up (up (up (up M1 12 3 (nI n)) 12 4 (M1 36 4)) 12 5 (M1 36 5)) 12 6 (M1 36 6)) up_o (by decide) (wE_0 _ rfl) rfl awF0 6 (by decide) (wP_0_6 _ _ rfl) tyX0 tyX0_ok nmX0 rfl (ty := .int) (by decide +kernel) rfl rfl (Nat.le_of_ble_eq_true rfl) aw_197 rfl dX0_copyFrom_60 ?_
        refine j_aload_n X 1 rfl rfl dX0_copyFrom_63 ?_
        refine j_aload_n X 2 rfl rfl dX0_copyFrom_64 ?_
        refine j_get X (by decide) (wE_0 _ rfl) rfl awF0 7 (by decide) aw_125 rfl (v := .int ((up (up (up (up M1 12 3 (nI n)) 12 4 (M1 36 4)) 12 5 (M1 36 5)) 12 6 (M1 36 6)) 36 7)) rfl dX0_copyFrom_65 ?_
        refine j_eqi (v := M1 36 7) ((up_cell (by omega)).trans ((up_cell (by omega)).trans ((up_cell (by omega)).trans ((up_cell (by omega)).trans rfl)))) ?_
        refine j_put X (up (up (up (up (up M1 12 3 (nI n)) 12 4 (M1 36 4)) 12 5 (M1 36 5)) 12 6 (M1 36 6)) 12 7 (M1 36 7)) up_o (by decide) (wE_0 _ rfl) rfl awF0 7 (by decide) (wP_0_7 _ _ rfl) tyX0 tyX0_ok nmX0 rfl (ty := .int) (by decide +kernel) rfl rfl (Nat.le_of_ble_eq_true rfl) aw_125 rfl dX0_copyFrom_68 ?_
        refine j_aload_n X 1 rfl rfl dX0_copyFrom_71 ?_
        refine j_aload_n X 2 rfl rfl dX0_copyFrom_72 ?_
        refine j_get X (by decide) (wE_0 _ rfl) rfl awF0 8 (by decide) aw_126 rfl (v := .int ((up (up (up (up (up M1 12 3 (nI n)) 12 4 (M1 36 4)) 12 5 (M1 36 5)) 12 6 (M1 36 6)) 12 7 (M1 36 7)) 36 8)) rfl dX0_copyFrom_73 ?_
        refine j_eqi (v := M1 36 8) ((up_cell (by omega)).trans ((up_cell (by omega)).trans ((up_cell (by omega)).trans ((up_cell (by omega)).trans ((up_cell (by omega)).trans rfl))))) ?_
        refine j_put X (up (up (up (up (up (up M1 12 3 (nI n)) 12 4 (M1 36 4)) 12 5 (M1 36 5)) 12 6 (M1 36 6)) 12 7 (M1 36 7)) 12 8 (M1 36 8)) up_o (by decide) (wE_0 _ rfl) rfl awF0 8 (by decide) (wP_0_8 _ _ rfl) tyX0 tyX0_ok nmX0 rfl (ty := .int) (by decide +kernel) rfl rfl (Nat.le_of_ble_eq_true rfl) aw_126 rfl dX0_copyFrom_76 ?_
        exact j_vret X hr hlocks dX0_copyFrom_79 ⟨(sm_up (sm_up (sm_up (sm_up (sm_up (sm_up (sm_tr sm_rf (sm_w hs1 (by intro b k hb; first | rfl | exact hb | (simp only [Bool.or_eq_false_iff, Bool.and_eq_false_iff, beq_eq_false_iff_ne, ne_eq, decide_eq_false_iff_not] at hb ⊢; omega)))) rfl) rfl) rfl) rfl) rfl) rfl), fun q hq f hf => by rw [up_cell (by omega), up_cell (by omega), up_cell (by omega), up_cell (by omega), up_cell (by omega), up_cell (by omega)]; exact hvi_1 q (by omega) f hf, fun f h3 h8 => by rcases (by omega : f = 3 ∨ f = 4 ∨ f = 5 ∨ f = 6 ∨ f = 7 ∨ f = 8) with rfl | rfl | rfl | rfl | rfl | rfl <;> simp [up] <;> first | exact hs1 36 _ rfl | exact hm.symm | rfl⟩
      · have c_2 : i_1 < n := by
          rcases Nat.lt_or_ge i_1 (n) with g | g
          · exact g
          · exact absurd (show nI (n) ≤ nI i_1 from nI_le g (by omega)) c_2
        refine j_aload_n X 1 rfl rfl dX0_copyFrom_10 ?_
        refine j_get X (by decide) (wE_0 _ rfl) rfl awF0 2 (by decide) aw_60 rfl (v := .ref (ad 13)) rfl dX0_copyFrom_11 ?_
        refine j_iload_n X 0 rfl rfl dX0_copyFrom_14 ?_
        refine j_aald10 X (by decide) rfl (show vp_in (nI i_1) 9 from vp_in_nI (by omega) (by decide)) dX0_copyFrom_15 ?_
        refine j_eqr (v := 14 + i_1) (by rw [nI_clamp (by omega)]; exact rf_one12 (by omega)) ?_
        refine j_aload_n X 2 rfl rfl dX0_copyFrom_16 ?_
        refine j_get X (by decide) (wE_0 _ rfl) rfl awF0 2 (by decide) aw_60 rfl (v := .ref (ad 37)) rfl dX0_copyFrom_17 ?_
        refine j_iload_n X 0 rfl rfl dX0_copyFrom_20 ?_
        refine j_aald10 X (by decide) rfl (show vp_in (nI i_1) 9 from vp_in_nI (by omega) (by decide)) dX0_copyFrom_21 ?_
        refine j_eqr (v := 38 + i_1) (by rw [nI_clamp (by omega)]; exact rf_one36 (by omega)) ?_
        refine j_callVNV X (nn := 1) (As := [.ref (ad (38 + i_1))]) (st := []) (ci := 1) (by omega) (wE_1 _ (kd_one12 (by omega))) rfl aw_540 aw_541 (g_copyOne l D y ad M1 (14 + i_1) (by omega) (kd_one12 (by omega)) (38 + i_1) (by omega) (kd_one36 (by omega)) (by omega) (by rw [hs1 (38 + i_1) 6 (by simp only [Bool.or_eq_false_iff, Bool.and_eq_false_iff, beq_eq_false_iff_ne, ne_eq, decide_eq_false_iff_not]; omega)]; exact hB _ (by omega))) (List.mem_of_getElem? (i := 34) rfl) aw_542 aw_65 (by decide +kernel) ⟨by decide, by decide⟩ rfl (Nat.le_of_ble_eq_true rfl) ⟨by decide, by decide⟩ dX0_copyFrom_22 ?_
        rintro M_4 ⟨s_3, s_3_v⟩
        refine j_iinc X (v := (nI (i_1 + 1))) 0 [(2, .int (nI (i_1 + 1))), (0, .ref (ad 12)), (1, .ref (ad 36))] rfl (show nI i_1 + Int32.ofInt 1 = _ from nI_1 i_1) (by decide) rfl dX0_copyFrom_25 ?_
        refine j_goto X 2 (by decide) dX0_copyFrom_28 ?_
        refine j_lv (lv1 := [(2, .int (nI (i_1 + 1))), (0, .ref (ad 12)), (1, .ref (ad 36))]) [0, 1, 2] rfl ?_
        exact ih1 (i_1 + 1) _ (by omega) (by omega) (sm_tr hs1 (sm_w s_3 (by intro b k hb; first | rfl | exact hb | (simp only [Bool.or_eq_false_iff, Bool.and_eq_false_iff, beq_eq_false_iff_ne, ne_eq, decide_eq_false_iff_not] at hb ⊢; omega)))) (cp_step hvi_1 s_3 s_3_v (fun f => hs1 (38 + i_1) f (by simp only [Bool.or_eq_false_iff, Bool.and_eq_false_iff, beq_eq_false_iff_ne, ne_eq, decide_eq_false_iff_not]; omega)))
  refine j_lv (lv1 := [(2, .int (nI 0)), (0, .ref (ad 12)), (1, .ref (ad 36))]) [0, 1, 2] rfl ?_
  exact loop1 (n + 1) 0 _ (by omega) (by omega) sm_rf (fun q hq => absurd hq (by omega))
end
section
theorem dX7_think_0 : decode cX7_think 0 = .ok (.aload_n 0, 1) := by decide +kernel
theorem dX7_think_1 : decode cX7_think 1 = .ok (.getfield 31, 3) := by decide +kernel
theorem dX7_think_4 : decode cX7_think 4 = .ok (.aload_n 0, 1) := by decide +kernel
theorem dX7_think_5 : decode cX7_think 5 = .ok (.getfield 12, 3) := by decide +kernel
theorem dX7_think_8 : decode cX7_think 8 = .ok (.getfield 72, 3) := by decide +kernel
theorem dX7_think_11 : decode cX7_think 11 = .ok (.invokevirtual 315, 3) := by decide +kernel
theorem dX7_think_14 : decode cX7_think 14 = .ok (.return_, 1) := by decide +kernel
theorem dX7_thinkDays_0 : decode cX7_thinkDays 0 = .ok (.iconst 0, 1) := by decide +kernel
theorem dX7_thinkDays_1 : decode cX7_thinkDays 1 = .ok (.istore_n 2, 1) := by decide +kernel
theorem dX7_thinkDays_2 : decode cX7_thinkDays 2 = .ok (.iload_n 2, 1) := by decide +kernel
theorem dX7_thinkDays_3 : decode cX7_thinkDays 3 = .ok (.iload_n 1, 1) := by decide +kernel
theorem dX7_thinkDays_4 : decode cX7_thinkDays 4 = .ok (.if_icmp .ge 17, 3) := by decide +kernel
theorem dX7_thinkDays_21 : decode cX7_thinkDays 21 = .ok (.return_, 1) := by decide +kernel
theorem dX7_thinkDays_7 : decode cX7_thinkDays 7 = .ok (.aload_n 0, 1) := by decide +kernel
theorem dX7_thinkDays_8 : decode cX7_thinkDays 8 = .ok (.getfield 31, 3) := by decide +kernel
theorem dX7_thinkDays_11 : decode cX7_thinkDays 11 = .ok (.iconst 0, 1) := by decide +kernel
theorem dX7_thinkDays_12 : decode cX7_thinkDays 12 = .ok (.invokevirtual 178, 3) := by decide +kernel
theorem dX7_thinkDays_15 : decode cX7_thinkDays 15 = .ok (.iinc 2 1, 3) := by decide +kernel
theorem dX7_thinkDays_18 : decode cX7_thinkDays 18 = .ok (.goto (-16), 3) := by decide +kernel
theorem dX7_thinkDaysWithHarm_0 : decode cX7_thinkDaysWithHarm 0 = .ok (.iconst 0, 1) := by decide +kernel
theorem dX7_thinkDaysWithHarm_1 : decode cX7_thinkDaysWithHarm 1 = .ok (.istore_n 2, 1) := by decide +kernel
theorem dX7_thinkDaysWithHarm_2 : decode cX7_thinkDaysWithHarm 2 = .ok (.iload_n 2, 1) := by decide +kernel
theorem dX7_thinkDaysWithHarm_3 : decode cX7_thinkDaysWithHarm 3 = .ok (.iload_n 1, 1) := by decide +kernel
theorem dX7_thinkDaysWithHarm_4 : decode cX7_thinkDaysWithHarm 4 = .ok (.if_icmp .ge 17, 3) := by decide +kernel
theorem dX7_thinkDaysWithHarm_21 : decode cX7_thinkDaysWithHarm 21 = .ok (.return_, 1) := by decide +kernel
theorem dX7_thinkDaysWithHarm_7 : decode cX7_thinkDaysWithHarm 7 = .ok (.aload_n 0, 1) := by decide +kernel
theorem dX7_thinkDaysWithHarm_8 : decode cX7_thinkDaysWithHarm 8 = .ok (.getfield 31, 3) := by decide +kernel
theorem dX7_thinkDaysWithHarm_11 : decode cX7_thinkDaysWithHarm 11 = .ok (.iconst 1, 1) := by decide +kernel
theorem dX7_thinkDaysWithHarm_12 : decode cX7_thinkDaysWithHarm 12 = .ok (.invokevirtual 178, 3) := by decide +kernel
theorem dX7_thinkDaysWithHarm_15 : decode cX7_thinkDaysWithHarm 15 = .ok (.iinc 2 1, 3) := by decide +kernel
theorem dX7_thinkDaysWithHarm_18 : decode cX7_thinkDaysWithHarm 18 = .ok (.goto (-16), 3) := by decide +kernel
theorem bool_keep {M M1 : Mem} {P : Nat → Nat → Bool} {b : Nat} (hs : sm P M M1) (hP : ∀ q, q < 9 → P (b + q) 6 = false) (hB : ∀ q, q < 9 → BoolOK (M (b + q) 6)) : ∀ q, q < 9 → BoolOK (M1 (b + q) 6) := fun q hq => by rw [hs (b + q) 6 (hP q hq)]; exact hB q hq
set_option maxRecDepth 100000 in
set_option maxHeartbeats 4000000 in
theorem g_think (l : Launch) (D : va_G) (y : wY) (ad : Nat → Nat) (M : Mem) (n : Nat) (hn : n ≤ 9) (hm : M 12 3 = nI n) (hB : ∀ q, q < 9 → BoolOK (M (14 + q) 6)) : MV l D y ad yX7_think (Cond.code yX7_think cX7_think 1 none) 2 M [.ref (ad 0)] (fun M' => sm (fun b k => (b == 49 && decide (3 ≤ k) && decide (k ≤ 8)) || (decide (51 ≤ b) && decide (b ≤ 59))) M M' ∧ (∀ f, 3 ≤ f → f ≤ 8 → M' 49 f = M 12 f) ∧ (∀ q, q < n → BoolOK (M' (51 + q) 6))) := by
  refine MV_of (by decide) (Nat.le_of_ble_eq_true rfl) ?_
  intro p e s m args below meth c X hr hlocks
  refine j_lv (lv1 := [(0, .ref (ad 0))]) [0] rfl ?_
  refine j_aload_n X 0 rfl rfl dX7_think_0 ?_
  refine j_get X (by decide) (wE_7 _ rfl) rfl awF7 2 (by decide) aw_21 rfl (v := .ref (ad 49)) rfl dX7_think_1 ?_
  refine j_aload_n X 0 rfl rfl dX7_think_4 ?_
  refine j_get X (by decide) (wE_7 _ rfl) rfl awF7 0 (by decide) aw_16 rfl (v := .ref (ad 1)) rfl dX7_think_5 ?_
  refine j_getN X (by decide) (wE_6 _ rfl) rfl awF6 2 (by decide) (List.mem_of_getElem? (i := 23) rfl) rfl (v := .ref (ad 12)) rfl dX7_think_8 ?_
  refine j_callVNV X (nn := 1) (As := [.ref (ad 12)]) (st := []) (ci := 0) (by decide) (wE_0 _ rfl) rfl aw_537 aw_538 (g_copyGround_49_12 l D y ad M n (by omega) hm hB) (List.mem_of_getElem? (i := 33) rfl) aw_539 aw_20 (by decide +kernel) ⟨by decide, by decide⟩ rfl (Nat.le_of_ble_eq_true rfl) ⟨by decide, by decide⟩ dX7_think_11 ?_
  rintro M_2 ⟨s_1, s_1_o, s_1_g⟩
  exact j_vret X hr hlocks dX7_think_14 ⟨s_1, s_1_g, fun q hq => by rw [s_1_o q hq 6 (by decide)]; exact hB q (by omega)⟩
set_option maxRecDepth 100000 in
set_option maxHeartbeats 4000000 in
theorem g_thinkDays (l : Launch) (D : va_G) (y : wY) (ad : Nat → Nat) (M : Mem) (n : Nat) (hn : n ≤ 9) (hm : M 49 3 = nI n) (z2 z7 : Nat) (hT2 : TextOK M 2 z2) (hT7 : TextOK M 7 z7) (N : Nat) (hN : N ≤ 60) : MV l D y ad yX7_thinkDays (Cond.code yX7_thinkDays cX7_thinkDays 3 none) 7 M [.ref (ad 0), .int (nI N)] (fun M' => sm (fun b k => b == 6 || b == 11 || (b == 49 && (k == 4 || k == 6 || k == 7 || k == 8)) || (decide (51 ≤ b) && decide (b ≤ 59) && (k == 3 || k == 5 || k == 6))) M M' ∧ sme 51 M M') := by
  refine MV_of (by decide) (Nat.le_of_ble_eq_true rfl) ?_
  intro p e s m args below meth c X hr hlocks
  refine j_lv (lv1 := [(0, .ref (ad 0)), (1, .int (nI N))]) [0, 1] rfl ?_
  refine j_iconst X (v := 0) (by decide) dX7_thinkDays_0 ?_
  refine j_istore_n X [(2, .int 0), (0, .ref (ad 0)), (1, .int (nI N))] rfl (by decide) rfl dX7_thinkDays_1 ?_
  have loop1 : ∀ (n_1 i_1 : Nat) (M1 : Mem), i_1 ≤ N → N - i_1 < n_1 → sm (fun b k => b == 6 || b == 11 || (b == 49 && (k == 4 || k == 6 || k == 7 || k == 8)) || (decide (51 ≤ b) && decide (b ≤ 59) && (k == 3 || k == 5 || k == 6))) M M1 → (sme 51 M M1) → J p l e (rmN 7) s m args below meth c 0 0 (QV (fun M' => sm (fun b k => b == 6 || b == 11 || (b == 49 && (k == 4 || k == 6 || k == 7 || k == 8)) || (decide (51 ≤ b) && decide (b ≤ 59) && (k == 3 || k == 5 || k == 6))) M M' ∧ sme 51 M M') D y ad M s args below) D y ad (va_A (PL y ad M) s.heap.size) 3 M1 2 [(2, .int (nI i_1)), (0, .ref (ad 0)), (1, .int (nI N))] [] := by
    intro n_1
    induction n_1 with
    | zero => intro i_1 M1 h1 h2; exact absurd h2 (by omega)
    | succ n_1 ih1 =>
      intro i_1 M1 h1i_1 h2i_1 hs1 hvi_1
      refine j_iload_n X 0 rfl rfl dX7_thinkDays_2 ?_
      refine j_iload_n X 2 rfl rfl dX7_thinkDays_3 ?_
      refine j_icmp_ge X 21 (by decide) dX7_thinkDays_4 (fun c_2 => ?_) (fun c_2 => ?_)
      · have c_2 := (nI_leI (by omega) (by omega)).mp (show nI (N) ≤ nI i_1 from c_2)
        exact j_vret X hr hlocks dX7_thinkDays_21 ⟨(sm_tr sm_rf (sm_w hs1 (by intro b k hb; first | rfl | exact hb | (simp only [Bool.or_eq_false_iff, Bool.and_eq_false_iff, beq_eq_false_iff_ne, ne_eq, decide_eq_false_iff_not] at hb ⊢; omega)))), hvi_1⟩
      · have c_2 : i_1 < N := by
          rcases Nat.lt_or_ge i_1 (N) with g | g
          · exact g
          · exact absurd (show nI (N) ≤ nI i_1 from nI_le g (by omega)) c_2
        refine j_aload_n X 1 rfl rfl dX7_thinkDays_7 ?_
        refine j_get X (by decide) (wE_7 _ rfl) rfl awF7 2 (by decide) aw_21 rfl (v := .ref (ad 49)) rfl dX7_thinkDays_8 ?_
        refine j_iconst X (v := 0) (by decide) dX7_thinkDays_11 ?_
        refine j_callVNV X (nn := 1) (As := [.int 0]) (st := []) (ci := 0) (by decide) (wE_0 _ rfl) rfl aw_439 aw_440 (g_passDay_49 l D y ad M1 n (by omega) ((hs1 49 3 rfl).trans hm) z2 z7 (TextOK_keep (P := (fun b k => b == 6 || b == 11 || (b == 49 && (k == 4 || k == 6 || k == 7 || k == 8)) || (decide (51 ≤ b) && decide (b ≤ 59) && (k == 3 || k == 5 || k == 6)))) (sm_tr sm_rf (sm_w hs1 (by intro b k hb; first | rfl | exact hb | (simp only [Bool.or_eq_false_iff, Bool.and_eq_false_iff, beq_eq_false_iff_ne, ne_eq, decide_eq_false_iff_not] at hb ⊢; omega)))) (fun _ => rfl) (fun _ => rfl) (fun _ => rfl) (fun _ => rfl) hT2) (TextOK_keep (P := (fun b k => b == 6 || b == 11 || (b == 49 && (k == 4 || k == 6 || k == 7 || k == 8)) || (decide (51 ≤ b) && decide (b ≤ 59) && (k == 3 || k == 5 || k == 6)))) (sm_tr sm_rf (sm_w hs1 (by intro b k hb; first | rfl | exact hb | (simp only [Bool.or_eq_false_iff, Bool.and_eq_false_iff, beq_eq_false_iff_ne, ne_eq, decide_eq_false_iff_not] at hb ⊢; omega)))) (fun _ => rfl) (fun _ => rfl) (fun _ => rfl) (fun _ => rfl) hT7) 0) (List.mem_of_getElem? (i := 27) rfl) aw_441 aw_20 (by decide +kernel) ⟨by decide, by decide⟩ rfl (Nat.le_of_ble_eq_true rfl) ⟨by decide, by decide⟩ dX7_thinkDays_12 ?_
        rintro M_4 ⟨s_3, s_3_e⟩
        refine j_iinc X (v := (nI (i_1 + 1))) 0 [(2, .int (nI (i_1 + 1))), (0, .ref (ad 0)), (1, .int (nI N))] rfl (show nI i_1 + Int32.ofInt 1 = _ from nI_1 i_1) (by decide) rfl dX7_thinkDays_15 ?_
        refine j_goto X 2 (by decide) dX7_thinkDays_18 ?_
        refine j_lv (lv1 := [(2, .int (nI (i_1 + 1))), (0, .ref (ad 0)), (1, .int (nI N))]) [0, 1, 2] rfl ?_
        exact ih1 (i_1 + 1) _ (by omega) (by omega) (sm_tr hs1 (sm_w s_3 (by intro b k hb; first | rfl | exact hb | (simp only [Bool.or_eq_false_iff, Bool.and_eq_false_iff, beq_eq_false_iff_ne, ne_eq, decide_eq_false_iff_not] at hb ⊢; omega)))) (sme_tr hvi_1 s_3_e)
  refine j_lv (lv1 := [(2, .int (nI 0)), (0, .ref (ad 0)), (1, .int (nI N))]) [0, 1, 2] rfl ?_
  exact loop1 (N + 1) 0 _ (by omega) (by omega) sm_rf sme_rf
set_option maxRecDepth 100000 in
set_option maxHeartbeats 4000000 in
theorem g_thinkDaysWithHarm (l : Launch) (D : va_G) (y : wY) (ad : Nat → Nat) (M : Mem) (n : Nat) (hn : n ≤ 9) (hm : M 49 3 = nI n) (z2 z7 : Nat) (hT2 : TextOK M 2 z2) (hT7 : TextOK M 7 z7) (N : Nat) (hN : N ≤ 60) : MV l D y ad yX7_thinkDaysWithHarm (Cond.code yX7_thinkDaysWithHarm cX7_thinkDaysWithHarm 3 none) 7 M [.ref (ad 0), .int (nI N)] (fun M' => sm (fun b k => b == 6 || b == 11 || (b == 49 && (k == 4 || k == 6 || k == 7 || k == 8)) || (decide (51 ≤ b) && decide (b ≤ 59) && (k == 3 || k == 5 || k == 6))) M M' ∧ sme 51 M M') := by
  refine MV_of (by decide) (Nat.le_of_ble_eq_true rfl) ?_
  intro p e s m args below meth c X hr hlocks
  refine j_lv (lv1 := [(0, .ref (ad 0)), (1, .int (nI N))]) [0, 1] rfl ?_
  refine j_iconst X (v := 0) (by decide) dX7_thinkDaysWithHarm_0 ?_
  refine j_istore_n X [(2, .int 0), (0, .ref (ad 0)), (1, .int (nI N))] rfl (by decide) rfl dX7_thinkDaysWithHarm_1 ?_
  have loop1 : ∀ (n_1 i_1 : Nat) (M1 : Mem), i_1 ≤ N → N - i_1 < n_1 → sm (fun b k => b == 6 || b == 11 || (b == 49 && (k == 4 || k == 6 || k == 7 || k == 8)) || (decide (51 ≤ b) && decide (b ≤ 59) && (k == 3 || k == 5 || k == 6))) M M1 → (sme 51 M M1) → J p l e (rmN 7) s m args below meth c 0 0 (QV (fun M' => sm (fun b k => b == 6 || b == 11 || (b == 49 && (k == 4 || k == 6 || k == 7 || k == 8)) || (decide (51 ≤ b) && decide (b ≤ 59) && (k == 3 || k == 5 || k == 6))) M M' ∧ sme 51 M M') D y ad M s args below) D y ad (va_A (PL y ad M) s.heap.size) 3 M1 2 [(2, .int (nI i_1)), (0, .ref (ad 0)), (1, .int (nI N))] [] := by
    intro n_1
    induction n_1 with
    | zero => intro i_1 M1 h1 h2; exact absurd h2 (by omega)
    | succ n_1 ih1 =>
      intro i_1 M1 h1i_1 h2i_1 hs1 hvi_1
      refine j_iload_n X 0 rfl rfl dX7_thinkDaysWithHarm_2 ?_
      refine j_iload_n X 2 rfl rfl dX7_thinkDaysWithHarm_3 ?_
      refine j_icmp_ge X 21 (by decide) dX7_thinkDaysWithHarm_4 (fun c_2 => ?_) (fun c_2 => ?_)
      · have c_2 := (nI_leI (by omega) (by omega)).mp (show nI (N) ≤ nI i_1 from c_2)
        exact j_vret X hr hlocks dX7_thinkDaysWithHarm_21 ⟨(sm_tr sm_rf (sm_w hs1 (by intro b k hb; first | rfl | exact hb | (simp only [Bool.or_eq_false_iff, Bool.and_eq_false_iff, beq_eq_false_iff_ne, ne_eq, decide_eq_false_iff_not] at hb ⊢; omega)))), hvi_1⟩
      · have c_2 : i_1 < N := by
          rcases Nat.lt_or_ge i_1 (N) with g | g
          · exact g
          · exact absurd (show nI (N) ≤ nI i_1 from nI_le g (by omega)) c_2
        refine j_aload_n X 1 rfl rfl dX7_thinkDaysWithHarm_7 ?_
        refine j_get X (by decide) (wE_7 _ rfl) rfl awF7 2 (by decide) aw_21 rfl (v := .ref (ad 49)) rfl dX7_thinkDaysWithHarm_8 ?_
        refine j_iconst X (v := 1) (by decide) dX7_thinkDaysWithHarm_11 ?_
        refine j_callVNV X (nn := 1) (As := [.int 1]) (st := []) (ci := 0) (by decide) (wE_0 _ rfl) rfl aw_439 aw_440 (g_passDay_49 l D y ad M1 n (by omega) ((hs1 49 3 rfl).trans hm) z2 z7 (TextOK_keep (P := (fun b k => b == 6 || b == 11 || (b == 49 && (k == 4 || k == 6 || k == 7 || k == 8)) || (decide (51 ≤ b) && decide (b ≤ 59) && (k == 3 || k == 5 || k == 6)))) (sm_tr sm_rf (sm_w hs1 (by intro b k hb; first | rfl | exact hb | (simp only [Bool.or_eq_false_iff, Bool.and_eq_false_iff, beq_eq_false_iff_ne, ne_eq, decide_eq_false_iff_not] at hb ⊢; omega)))) (fun _ => rfl) (fun _ => rfl) (fun _ => rfl) (fun _ => rfl) hT2) (TextOK_keep (P := (fun b k => b == 6 || b == 11 || (b == 49 && (k == 4 || k == 6 || k == 7 || k == 8)) || (decide (51 ≤ b) && decide (b ≤ 59) && (k == 3 || k == 5 || k == 6)))) (sm_tr sm_rf (sm_w hs1 (by intro b k hb; first | rfl | exact hb | (simp only [Bool.or_eq_false_iff, Bool.and_eq_false_iff, beq_eq_false_iff_ne, ne_eq, decide_eq_false_iff_not] at hb ⊢; omega)))) (fun _ => rfl) (fun _ => rfl) (fun _ => rfl) (fun _ => rfl) hT7) 1) (List.mem_of_getElem? (i := 27) rfl) aw_441 aw_20 (by decide +kernel) ⟨by decide, by decide⟩ rfl (Nat.le_of_ble_eq_true rfl) ⟨by decide, by decide⟩ dX7_thinkDaysWithHarm_12 ?_
        rintro M_4 ⟨s_3, s_3_e⟩
        refine j_iinc X (v := (nI (i_1 + 1))) 0 [(2, .int (nI (i_1 + 1))), (0, .ref (ad 0)), (1, .int (nI N))] rfl (show nI i_1 + Int32.ofInt 1 = _ from nI_1 i_1) (by decide) rfl dX7_thinkDaysWithHarm_15 ?_
        refine j_goto X 2 (by decide) dX7_thinkDaysWithHarm_18 ?_
        refine j_lv (lv1 := [(2, .int (nI (i_1 + 1))), (0, .ref (ad 0)), (1, .int (nI N))]) [0, 1, 2] rfl ?_
        exact ih1 (i_1 + 1) _ (by omega) (by omega) (sm_tr hs1 (sm_w s_3 (by intro b k hb; first | rfl | exact hb | (simp only [Bool.or_eq_false_iff, Bool.and_eq_false_iff, beq_eq_false_iff_ne, ne_eq, decide_eq_false_iff_not] at hb ⊢; omega)))) (sme_tr hvi_1 s_3_e)
  refine j_lv (lv1 := [(2, .int (nI 0)), (0, .ref (ad 0)), (1, .int (nI N))]) [0, 1, 2] rfl ?_
  exact loop1 (N + 1) 0 _ (by omega) (by omega) sm_rf sme_rf
end
section
theorem dJ6_bitCount_0f7a4_0 : decode cJ6_bitCount_0f7a4 0 = .ok (.iload_n 0, 1) := by decide +kernel
theorem dJ6_bitCount_0f7a4_1 : decode cJ6_bitCount_0f7a4 1 = .ok (.iload_n 0, 1) := by decide +kernel
theorem dJ6_bitCount_0f7a4_2 : decode cJ6_bitCount_0f7a4 2 = .ok (.iconst 1, 1) := by decide +kernel
theorem dJ6_bitCount_0f7a4_3 : decode cJ6_bitCount_0f7a4 3 = .ok (.iushr, 1) := by decide +kernel
theorem dJ6_bitCount_0f7a4_4 : decode cJ6_bitCount_0f7a4 4 = .ok (.ldc_w 265, 3) := by decide +kernel
theorem dJ6_bitCount_0f7a4_7 : decode cJ6_bitCount_0f7a4 7 = .ok (.iand, 1) := by decide +kernel
theorem dJ6_bitCount_0f7a4_8 : decode cJ6_bitCount_0f7a4 8 = .ok (.isub, 1) := by decide +kernel
theorem dJ6_bitCount_0f7a4_9 : decode cJ6_bitCount_0f7a4 9 = .ok (.istore_n 0, 1) := by decide +kernel
theorem dJ6_bitCount_0f7a4_10 : decode cJ6_bitCount_0f7a4 10 = .ok (.iload_n 0, 1) := by decide +kernel
theorem dJ6_bitCount_0f7a4_11 : decode cJ6_bitCount_0f7a4 11 = .ok (.ldc_w 266, 3) := by decide +kernel
theorem dJ6_bitCount_0f7a4_14 : decode cJ6_bitCount_0f7a4 14 = .ok (.iand, 1) := by decide +kernel
theorem dJ6_bitCount_0f7a4_15 : decode cJ6_bitCount_0f7a4 15 = .ok (.iload_n 0, 1) := by decide +kernel
theorem dJ6_bitCount_0f7a4_16 : decode cJ6_bitCount_0f7a4 16 = .ok (.iconst 2, 1) := by decide +kernel
theorem dJ6_bitCount_0f7a4_17 : decode cJ6_bitCount_0f7a4 17 = .ok (.iushr, 1) := by decide +kernel
theorem dJ6_bitCount_0f7a4_18 : decode cJ6_bitCount_0f7a4 18 = .ok (.ldc_w 266, 3) := by decide +kernel
theorem dJ6_bitCount_0f7a4_21 : decode cJ6_bitCount_0f7a4 21 = .ok (.iand, 1) := by decide +kernel
theorem dJ6_bitCount_0f7a4_22 : decode cJ6_bitCount_0f7a4 22 = .ok (.iadd, 1) := by decide +kernel
theorem dJ6_bitCount_0f7a4_23 : decode cJ6_bitCount_0f7a4 23 = .ok (.istore_n 0, 1) := by decide +kernel
theorem dJ6_bitCount_0f7a4_24 : decode cJ6_bitCount_0f7a4 24 = .ok (.iload_n 0, 1) := by decide +kernel
theorem dJ6_bitCount_0f7a4_25 : decode cJ6_bitCount_0f7a4 25 = .ok (.iload_n 0, 1) := by decide +kernel
theorem dJ6_bitCount_0f7a4_26 : decode cJ6_bitCount_0f7a4 26 = .ok (.iconst 4, 1) := by decide +kernel
theorem dJ6_bitCount_0f7a4_27 : decode cJ6_bitCount_0f7a4 27 = .ok (.iushr, 1) := by decide +kernel
theorem dJ6_bitCount_0f7a4_28 : decode cJ6_bitCount_0f7a4 28 = .ok (.iadd, 1) := by decide +kernel
theorem dJ6_bitCount_0f7a4_29 : decode cJ6_bitCount_0f7a4 29 = .ok (.ldc_w 267, 3) := by decide +kernel
theorem dJ6_bitCount_0f7a4_32 : decode cJ6_bitCount_0f7a4 32 = .ok (.iand, 1) := by decide +kernel
theorem dJ6_bitCount_0f7a4_33 : decode cJ6_bitCount_0f7a4 33 = .ok (.istore_n 0, 1) := by decide +kernel
theorem dJ6_bitCount_0f7a4_34 : decode cJ6_bitCount_0f7a4 34 = .ok (.iload_n 0, 1) := by decide +kernel
theorem dJ6_bitCount_0f7a4_35 : decode cJ6_bitCount_0f7a4 35 = .ok (.iload_n 0, 1) := by decide +kernel
theorem dJ6_bitCount_0f7a4_36 : decode cJ6_bitCount_0f7a4 36 = .ok (.bipush 8, 2) := by decide +kernel
theorem dJ6_bitCount_0f7a4_38 : decode cJ6_bitCount_0f7a4 38 = .ok (.iushr, 1) := by decide +kernel
theorem dJ6_bitCount_0f7a4_39 : decode cJ6_bitCount_0f7a4 39 = .ok (.iadd, 1) := by decide +kernel
theorem dJ6_bitCount_0f7a4_40 : decode cJ6_bitCount_0f7a4 40 = .ok (.istore_n 0, 1) := by decide +kernel
theorem dJ6_bitCount_0f7a4_41 : decode cJ6_bitCount_0f7a4 41 = .ok (.iload_n 0, 1) := by decide +kernel
theorem dJ6_bitCount_0f7a4_42 : decode cJ6_bitCount_0f7a4 42 = .ok (.iload_n 0, 1) := by decide +kernel
theorem dJ6_bitCount_0f7a4_43 : decode cJ6_bitCount_0f7a4 43 = .ok (.bipush 16, 2) := by decide +kernel
theorem dJ6_bitCount_0f7a4_45 : decode cJ6_bitCount_0f7a4 45 = .ok (.iushr, 1) := by decide +kernel
theorem dJ6_bitCount_0f7a4_46 : decode cJ6_bitCount_0f7a4 46 = .ok (.iadd, 1) := by decide +kernel
theorem dJ6_bitCount_0f7a4_47 : decode cJ6_bitCount_0f7a4 47 = .ok (.istore_n 0, 1) := by decide +kernel
theorem dJ6_bitCount_0f7a4_48 : decode cJ6_bitCount_0f7a4 48 = .ok (.iload_n 0, 1) := by decide +kernel
theorem dJ6_bitCount_0f7a4_49 : decode cJ6_bitCount_0f7a4 49 = .ok (.bipush 63, 2) := by decide +kernel
theorem dJ6_bitCount_0f7a4_51 : decode cJ6_bitCount_0f7a4 51 = .ok (.iand, 1) := by decide +kernel
theorem dJ6_bitCount_0f7a4_52 : decode cJ6_bitCount_0f7a4 52 = .ok (.ireturn, 1) := by decide +kernel
theorem dX0_endedMany_0 : decode cX0_endedMany 0 = .ok (.aload_n 0, 1) := by decide +kernel
theorem dX0_endedMany_1 : decode cX0_endedMany 1 = .ok (.invokevirtual 122, 3) := by decide +kernel
theorem dX0_endedMany_4 : decode cX0_endedMany 4 = .ok (.invokestatic 125, 3) := by decide +kernel
theorem dX0_endedMany_7 : decode cX0_endedMany 7 = .ok (.ireturn, 1) := by decide +kernel
theorem dX0_edgesTogether_0 : decode cX0_edgesTogether 0 = .ok (.iconst 0, 1) := by decide +kernel
theorem dX0_edgesTogether_1 : decode cX0_edgesTogether 1 = .ok (.istore_n 1, 1) := by decide +kernel
theorem dX0_edgesTogether_2 : decode cX0_edgesTogether 2 = .ok (.iconst 0, 1) := by decide +kernel
theorem dX0_edgesTogether_3 : decode cX0_edgesTogether 3 = .ok (.istore_n 2, 1) := by decide +kernel
theorem dX0_edgesTogether_4 : decode cX0_edgesTogether 4 = .ok (.iload_n 2, 1) := by decide +kernel
theorem dX0_edgesTogether_5 : decode cX0_edgesTogether 5 = .ok (.aload_n 0, 1) := by decide +kernel
theorem dX0_edgesTogether_6 : decode cX0_edgesTogether 6 = .ok (.getfield 29, 3) := by decide +kernel
theorem dX0_edgesTogether_9 : decode cX0_edgesTogether 9 = .ok (.if_icmp .ge 21, 3) := by decide +kernel
theorem dX0_edgesTogether_30 : decode cX0_edgesTogether 30 = .ok (.iload_n 1, 1) := by decide +kernel
theorem dX0_edgesTogether_31 : decode cX0_edgesTogether 31 = .ok (.ireturn, 1) := by decide +kernel
theorem dX0_edgesTogether_12 : decode cX0_edgesTogether 12 = .ok (.iload_n 1, 1) := by decide +kernel
theorem dX0_edgesTogether_13 : decode cX0_edgesTogether 13 = .ok (.aload_n 0, 1) := by decide +kernel
theorem dX0_edgesTogether_14 : decode cX0_edgesTogether 14 = .ok (.getfield 11, 3) := by decide +kernel
theorem dX0_edgesTogether_17 : decode cX0_edgesTogether 17 = .ok (.iload_n 2, 1) := by decide +kernel
theorem dX0_edgesTogether_18 : decode cX0_edgesTogether 18 = .ok (.aaload, 1) := by decide +kernel
theorem dX0_edgesTogether_19 : decode cX0_edgesTogether 19 = .ok (.getfield 65, 3) := by decide +kernel
theorem dX0_edgesTogether_22 : decode cX0_edgesTogether 22 = .ok (.iadd, 1) := by decide +kernel
theorem dX0_edgesTogether_23 : decode cX0_edgesTogether 23 = .ok (.istore_n 1, 1) := by decide +kernel
theorem dX0_edgesTogether_24 : decode cX0_edgesTogether 24 = .ok (.iinc 2 1, 3) := by decide +kernel
theorem dX0_edgesTogether_27 : decode cX0_edgesTogether 27 = .ok (.goto (-23), 3) := by decide +kernel
theorem dX0_setFree_0 : decode cX0_setFree 0 = .ok (.iconst 0, 1) := by decide +kernel
theorem dX0_setFree_1 : decode cX0_setFree 1 = .ok (.istore_n 1, 1) := by decide +kernel
theorem dX0_setFree_2 : decode cX0_setFree 2 = .ok (.iconst 0, 1) := by decide +kernel
theorem dX0_setFree_3 : decode cX0_setFree 3 = .ok (.istore_n 2, 1) := by decide +kernel
theorem dX0_setFree_4 : decode cX0_setFree 4 = .ok (.iload_n 2, 1) := by decide +kernel
theorem dX0_setFree_5 : decode cX0_setFree 5 = .ok (.aload_n 0, 1) := by decide +kernel
theorem dX0_setFree_6 : decode cX0_setFree 6 = .ok (.getfield 29, 3) := by decide +kernel
theorem dX0_setFree_9 : decode cX0_setFree 9 = .ok (.if_icmp .ge 44, 3) := by decide +kernel
theorem dX0_setFree_53 : decode cX0_setFree 53 = .ok (.iload_n 1, 1) := by decide +kernel
theorem dX0_setFree_54 : decode cX0_setFree 54 = .ok (.ireturn, 1) := by decide +kernel
theorem dX0_setFree_12 : decode cX0_setFree 12 = .ok (.iload_n 1, 1) := by decide +kernel
theorem dX0_setFree_13 : decode cX0_setFree 13 = .ok (.aload_n 0, 1) := by decide +kernel
theorem dX0_setFree_14 : decode cX0_setFree 14 = .ok (.getfield 11, 3) := by decide +kernel
theorem dX0_setFree_17 : decode cX0_setFree 17 = .ok (.iload_n 2, 1) := by decide +kernel
theorem dX0_setFree_18 : decode cX0_setFree 18 = .ok (.aaload, 1) := by decide +kernel
theorem dX0_setFree_19 : decode cX0_setFree 19 = .ok (.getfield 61, 3) := by decide +kernel
theorem dX0_setFree_22 : decode cX0_setFree 22 = .ok (.ifCond .ne 22, 3) := by decide +kernel
theorem dX0_setFree_44 : decode cX0_setFree 44 = .ok (.iconst 0, 1) := by decide +kernel
theorem dX0_setFree_45 : decode cX0_setFree 45 = .ok (.ior, 1) := by decide +kernel
theorem dX0_setFree_46 : decode cX0_setFree 46 = .ok (.istore_n 1, 1) := by decide +kernel
theorem dX0_setFree_47 : decode cX0_setFree 47 = .ok (.iinc 2 1, 3) := by decide +kernel
theorem dX0_setFree_50 : decode cX0_setFree 50 = .ok (.goto (-46), 3) := by decide +kernel
theorem dX0_setFree_25 : decode cX0_setFree 25 = .ok (.aload_n 0, 1) := by decide +kernel
theorem dX0_setFree_26 : decode cX0_setFree 26 = .ok (.aload_n 0, 1) := by decide +kernel
theorem dX0_setFree_27 : decode cX0_setFree 27 = .ok (.getfield 11, 3) := by decide +kernel
theorem dX0_setFree_30 : decode cX0_setFree 30 = .ok (.iload_n 2, 1) := by decide +kernel
theorem dX0_setFree_31 : decode cX0_setFree 31 = .ok (.aaload, 1) := by decide +kernel
theorem dX0_setFree_32 : decode cX0_setFree 32 = .ok (.invokevirtual 83, 3) := by decide +kernel
theorem dX0_setFree_35 : decode cX0_setFree 35 = .ok (.ifCond .eq 9, 3) := by decide +kernel
theorem dX0_setFree_38 : decode cX0_setFree 38 = .ok (.iconst 1, 1) := by decide +kernel
theorem dX0_setFree_39 : decode cX0_setFree 39 = .ok (.iload_n 2, 1) := by decide +kernel
theorem dX0_setFree_40 : decode cX0_setFree 40 = .ok (.ishl, 1) := by decide +kernel
theorem dX0_setFree_41 : decode cX0_setFree 41 = .ok (.goto 4, 3) := by decide +kernel
theorem dX0_sharpen_0 : decode cX0_sharpen 0 = .ok (.iconst 0, 1) := by decide +kernel
theorem dX0_sharpen_1 : decode cX0_sharpen 1 = .ok (.istore_n 2, 1) := by decide +kernel
theorem dX0_sharpen_2 : decode cX0_sharpen 2 = .ok (.iload_n 2, 1) := by decide +kernel
theorem dX0_sharpen_3 : decode cX0_sharpen 3 = .ok (.aload_n 0, 1) := by decide +kernel
theorem dX0_sharpen_4 : decode cX0_sharpen 4 = .ok (.getfield 29, 3) := by decide +kernel
theorem dX0_sharpen_7 : decode cX0_sharpen 7 = .ok (.if_icmp .ge 28, 3) := by decide +kernel
theorem dX0_sharpen_35 : decode cX0_sharpen 35 = .ok (.return_, 1) := by decide +kernel
theorem dX0_sharpen_10 : decode cX0_sharpen 10 = .ok (.iload_n 1, 1) := by decide +kernel
theorem dX0_sharpen_11 : decode cX0_sharpen 11 = .ok (.iload_n 2, 1) := by decide +kernel
theorem dX0_sharpen_12 : decode cX0_sharpen 12 = .ok (.ishr, 1) := by decide +kernel
theorem dX0_sharpen_13 : decode cX0_sharpen 13 = .ok (.iconst 1, 1) := by decide +kernel
theorem dX0_sharpen_14 : decode cX0_sharpen 14 = .ok (.iand, 1) := by decide +kernel
theorem dX0_sharpen_15 : decode cX0_sharpen 15 = .ok (.ifCond .eq 14, 3) := by decide +kernel
theorem dX0_sharpen_29 : decode cX0_sharpen 29 = .ok (.iinc 2 1, 3) := by decide +kernel
theorem dX0_sharpen_32 : decode cX0_sharpen 32 = .ok (.goto (-30), 3) := by decide +kernel
theorem dX0_sharpen_18 : decode cX0_sharpen 18 = .ok (.aload_n 0, 1) := by decide +kernel
theorem dX0_sharpen_19 : decode cX0_sharpen 19 = .ok (.getfield 11, 3) := by decide +kernel
theorem dX0_sharpen_22 : decode cX0_sharpen 22 = .ok (.iload_n 2, 1) := by decide +kernel
theorem dX0_sharpen_23 : decode cX0_sharpen 23 = .ok (.aaload, 1) := by decide +kernel
theorem dX0_sharpen_24 : decode cX0_sharpen 24 = .ok (.bipush 99, 2) := by decide +kernel
theorem dX0_sharpen_26 : decode cX0_sharpen 26 = .ok (.putfield 65, 3) := by decide +kernel
theorem dX7_refuse_0 : decode cX7_refuse 0 = .ok (.aload_n 0, 1) := by decide +kernel
theorem dX7_refuse_1 : decode cX7_refuse 1 = .ok (.getfield 55, 3) := by decide +kernel
theorem dX7_refuse_4 : decode cX7_refuse 4 = .ok (.ldc_w 313, 3) := by decide +kernel
theorem dX7_refuse_7 : decode cX7_refuse 7 = .ok (.iload_n 1, 1) := by decide +kernel
theorem dX7_refuse_8 : decode cX7_refuse 8 = .ok (.isub, 1) := by decide +kernel
theorem dX7_refuse_9 : decode cX7_refuse 9 = .ok (.dup2, 1) := by decide +kernel
theorem dX7_refuse_10 : decode cX7_refuse 10 = .ok (.iaload, 1) := by decide +kernel
theorem dX7_refuse_11 : decode cX7_refuse 11 = .ok (.iconst 1, 1) := by decide +kernel
theorem dX7_refuse_12 : decode cX7_refuse 12 = .ok (.iadd, 1) := by decide +kernel
theorem dX7_refuse_13 : decode cX7_refuse 13 = .ok (.iastore, 1) := by decide +kernel
theorem dX7_refuse_14 : decode cX7_refuse 14 = .ok (.iload_n 1, 1) := by decide +kernel
theorem dX7_refuse_15 : decode cX7_refuse 15 = .ok (.ireturn, 1) := by decide +kernel
theorem dX7_isQuarrel_0 : decode cX7_isQuarrel 0 = .ok (.iload_n 1, 1) := by decide +kernel
theorem dX7_isQuarrel_1 : decode cX7_isQuarrel 1 = .ok (.iconst 0, 1) := by decide +kernel
theorem dX7_isQuarrel_2 : decode cX7_isQuarrel 2 = .ok (.aload_n 0, 1) := by decide +kernel
theorem dX7_isQuarrel_3 : decode cX7_isQuarrel 3 = .ok (.getfield 12, 3) := by decide +kernel
theorem dX7_isQuarrel_6 : decode cX7_isQuarrel 6 = .ok (.getfield 72, 3) := by decide +kernel
theorem dX7_isQuarrel_9 : decode cX7_isQuarrel 9 = .ok (.getfield 86, 3) := by decide +kernel
theorem dX7_isQuarrel_12 : decode cX7_isQuarrel 12 = .ok (.iconst 1, 1) := by decide +kernel
theorem dX7_isQuarrel_13 : decode cX7_isQuarrel 13 = .ok (.isub, 1) := by decide +kernel
theorem dX7_isQuarrel_14 : decode cX7_isQuarrel 14 = .ok (.invokestatic 60, 3) := by decide +kernel
theorem dX7_isQuarrel_17 : decode cX7_isQuarrel 17 = .ok (.ireturn, 1) := by decide +kernel
theorem dX7_greatestOf_0 : decode cX7_greatestOf 0 = .ok (.iconst (-1), 1) := by decide +kernel
theorem dX7_greatestOf_1 : decode cX7_greatestOf 1 = .ok (.istore_n 1, 1) := by decide +kernel
theorem dX7_greatestOf_2 : decode cX7_greatestOf 2 = .ok (.iconst 0, 1) := by decide +kernel
theorem dX7_greatestOf_3 : decode cX7_greatestOf 3 = .ok (.istore_n 2, 1) := by decide +kernel
theorem dX7_greatestOf_4 : decode cX7_greatestOf 4 = .ok (.iload_n 2, 1) := by decide +kernel
theorem dX7_greatestOf_5 : decode cX7_greatestOf 5 = .ok (.bipush 9, 2) := by decide +kernel
theorem dX7_greatestOf_7 : decode cX7_greatestOf 7 = .ok (.if_icmp .ge 19, 3) := by decide +kernel
theorem dX7_greatestOf_26 : decode cX7_greatestOf 26 = .ok (.iload_n 1, 1) := by decide +kernel
theorem dX7_greatestOf_27 : decode cX7_greatestOf 27 = .ok (.ireturn, 1) := by decide +kernel
theorem dX7_greatestOf_10 : decode cX7_greatestOf 10 = .ok (.iload_n 0, 1) := by decide +kernel
theorem dX7_greatestOf_11 : decode cX7_greatestOf 11 = .ok (.iload_n 2, 1) := by decide +kernel
theorem dX7_greatestOf_12 : decode cX7_greatestOf 12 = .ok (.ishr, 1) := by decide +kernel
theorem dX7_greatestOf_13 : decode cX7_greatestOf 13 = .ok (.iconst 1, 1) := by decide +kernel
theorem dX7_greatestOf_14 : decode cX7_greatestOf 14 = .ok (.iand, 1) := by decide +kernel
theorem dX7_greatestOf_15 : decode cX7_greatestOf 15 = .ok (.ifCond .eq 5, 3) := by decide +kernel
theorem dX7_greatestOf_20 : decode cX7_greatestOf 20 = .ok (.iinc 2 1, 3) := by decide +kernel
theorem dX7_greatestOf_23 : decode cX7_greatestOf 23 = .ok (.goto (-19), 3) := by decide +kernel
theorem dX7_greatestOf_18 : decode cX7_greatestOf 18 = .ok (.iload_n 2, 1) := by decide +kernel
theorem dX7_greatestOf_19 : decode cX7_greatestOf 19 = .ok (.istore_n 1, 1) := by decide +kernel
theorem dX7_endsInThought_0 : decode cX7_endsInThought 0 = .ok (.aload_n 0, 1) := by decide +kernel
theorem dX7_endsInThought_1 : decode cX7_endsInThought 1 = .ok (.getfield 31, 3) := by decide +kernel
theorem dX7_endsInThought_4 : decode cX7_endsInThought 4 = .ok (.getfield 91, 3) := by decide +kernel
theorem dX7_endsInThought_7 : decode cX7_endsInThought 7 = .ok (.iload_n 1, 1) := by decide +kernel
theorem dX7_endsInThought_8 : decode cX7_endsInThought 8 = .ok (.aaload, 1) := by decide +kernel
theorem dX7_endsInThought_9 : decode cX7_endsInThought 9 = .ok (.astore_n 3, 1) := by decide +kernel
theorem dX7_endsInThought_10 : decode cX7_endsInThought 10 = .ok (.iconst 0, 1) := by decide +kernel
theorem dX7_endsInThought_11 : decode cX7_endsInThought 11 = .ok (.istore 4, 2) := by decide +kernel
theorem dX7_endsInThought_13 : decode cX7_endsInThought 13 = .ok (.iload 4, 2) := by decide +kernel
theorem dX7_endsInThought_15 : decode cX7_endsInThought 15 = .ok (.iload_n 2, 1) := by decide +kernel
theorem dX7_endsInThought_16 : decode cX7_endsInThought 16 = .ok (.if_icmp .ge 24, 3) := by decide +kernel
theorem dX7_endsInThought_40 : decode cX7_endsInThought 40 = .ok (.aload_n 3, 1) := by decide +kernel
theorem dX7_endsInThought_41 : decode cX7_endsInThought 41 = .ok (.getfield 110, 3) := by decide +kernel
theorem dX7_endsInThought_44 : decode cX7_endsInThought 44 = .ok (.ireturn, 1) := by decide +kernel
theorem dX7_endsInThought_19 : decode cX7_endsInThought 19 = .ok (.aload_n 3, 1) := by decide +kernel
theorem dX7_endsInThought_20 : decode cX7_endsInThought 20 = .ok (.getfield 110, 3) := by decide +kernel
theorem dX7_endsInThought_23 : decode cX7_endsInThought 23 = .ok (.ifCond .ne 17, 3) := by decide +kernel
theorem dX7_endsInThought_26 : decode cX7_endsInThought 26 = .ok (.aload_n 0, 1) := by decide +kernel
theorem dX7_endsInThought_27 : decode cX7_endsInThought 27 = .ok (.getfield 31, 3) := by decide +kernel
theorem dX7_endsInThought_30 : decode cX7_endsInThought 30 = .ok (.iconst 0, 1) := by decide +kernel
theorem dX7_endsInThought_31 : decode cX7_endsInThought 31 = .ok (.invokevirtual 178, 3) := by decide +kernel
theorem dX7_endsInThought_34 : decode cX7_endsInThought 34 = .ok (.iinc 4 1, 3) := by decide +kernel
theorem dX7_endsInThought_37 : decode cX7_endsInThought 37 = .ok (.goto (-24), 3) := by decide +kernel
set_option maxRecDepth 100000 in
set_option maxHeartbeats 4000000 in
theorem g_bitCount (l : Launch) (D : va_G) (y : wY) (ad : Nat → Nat) (M : Mem) (v : Int32) : MI l D y ad yJ6_bitCount_0f7a4 (Cond.code yJ6_bitCount_0f7a4 cJ6_bitCount_0f7a4 1 (some .int)) 0 M [.int v] (fun _ M' => M = M') := by
  refine MI_of (by decide) (Nat.le_of_ble_eq_true rfl) ?_
  intro p e s m args below meth c X hr hlocks
  refine j_lv (lv1 := [(0, .int v)]) [0] rfl ?_
  refine j_iload_n X 0 rfl rfl dJ6_bitCount_0f7a4_0 ?_
  refine j_iload_n X 0 rfl rfl dJ6_bitCount_0f7a4_1 ?_
  refine j_iconst X (v := 1) (by decide) dJ6_bitCount_0f7a4_2 ?_
  refine j_iushr X dJ6_bitCount_0f7a4_3 ?_
  refine j_ldcw X (v := 1431655765) aw_473 dJ6_bitCount_0f7a4_4 ?_
  refine j_iand X dJ6_bitCount_0f7a4_7 ?_
  refine j_isub X dJ6_bitCount_0f7a4_8 ?_
  refine j_topi (fun g_1 _ => ?_)
  refine j_istore_n X [(0, .int g_1)] rfl (by decide) rfl dJ6_bitCount_0f7a4_9 ?_
  refine j_iload_n X 0 rfl rfl dJ6_bitCount_0f7a4_10 ?_
  refine j_ldcw X (v := 858993459) aw_474 dJ6_bitCount_0f7a4_11 ?_
  refine j_iand X dJ6_bitCount_0f7a4_14 ?_
  refine j_iload_n X 0 rfl rfl dJ6_bitCount_0f7a4_15 ?_
  refine j_iconst X (v := 2) (by decide) dJ6_bitCount_0f7a4_16 ?_
  refine j_iushr X dJ6_bitCount_0f7a4_17 ?_
  refine j_ldcw X (v := 858993459) aw_474 dJ6_bitCount_0f7a4_18 ?_
  refine j_iand X dJ6_bitCount_0f7a4_21 ?_
  refine j_iadd X dJ6_bitCount_0f7a4_22 ?_
  refine j_topi (fun g_2 _ => ?_)
  refine j_istore_n X [(0, .int g_2)] rfl (by decide) rfl dJ6_bitCount_0f7a4_23 ?_
  refine j_iload_n X 0 rfl rfl dJ6_bitCount_0f7a4_24 ?_
  refine j_iload_n X 0 rfl rfl dJ6_bitCount_0f7a4_25 ?_
  refine j_iconst X (v := 4) (by decide) dJ6_bitCount_0f7a4_26 ?_
  refine j_iushr X dJ6_bitCount_0f7a4_27 ?_
  refine j_iadd X dJ6_bitCount_0f7a4_28 ?_
  refine j_ldcw X (v := 252645135) aw_475 dJ6_bitCount_0f7a4_29 ?_
  refine j_iand X dJ6_bitCount_0f7a4_32 ?_
  refine j_topi (fun g_3 _ => ?_)
  refine j_istore_n X [(0, .int g_3)] rfl (by decide) rfl dJ6_bitCount_0f7a4_33 ?_
  refine j_iload_n X 0 rfl rfl dJ6_bitCount_0f7a4_34 ?_
  refine j_iload_n X 0 rfl rfl dJ6_bitCount_0f7a4_35 ?_
  refine j_bipush X (v := 8) (by decide) dJ6_bitCount_0f7a4_36 ?_
  refine j_iushr X dJ6_bitCount_0f7a4_38 ?_
  refine j_iadd X dJ6_bitCount_0f7a4_39 ?_
  refine j_topi (fun g_4 _ => ?_)
  refine j_istore_n X [(0, .int g_4)] rfl (by decide) rfl dJ6_bitCount_0f7a4_40 ?_
  refine j_iload_n X 0 rfl rfl dJ6_bitCount_0f7a4_41 ?_
  refine j_iload_n X 0 rfl rfl dJ6_bitCount_0f7a4_42 ?_
  refine j_bipush X (v := 16) (by decide) dJ6_bitCount_0f7a4_43 ?_
  refine j_iushr X dJ6_bitCount_0f7a4_45 ?_
  refine j_iadd X dJ6_bitCount_0f7a4_46 ?_
  refine j_topi (fun g_5 _ => ?_)
  refine j_istore_n X [(0, .int g_5)] rfl (by decide) rfl dJ6_bitCount_0f7a4_47 ?_
  refine j_iload_n X 0 rfl rfl dJ6_bitCount_0f7a4_48 ?_
  refine j_bipush X (v := 63) (by decide) dJ6_bitCount_0f7a4_49 ?_
  refine j_iand X dJ6_bitCount_0f7a4_51 ?_
  exact j_iret X hr hlocks dJ6_bitCount_0f7a4_52 rfl
set_option maxRecDepth 100000 in
set_option maxHeartbeats 4000000 in
theorem g_endedMany_12 (l : Launch) (D : va_G) (y : wY) (ad : Nat → Nat) (M : Mem) (n : Nat) (hn : n ≤ 9) (hm : M 12 3 = nI n) : MI l D y ad yX0_endedMany (Cond.code yX0_endedMany cX0_endedMany 1 (some .int)) 1 M [.ref (ad 12)] (fun _ M' => M = M') := by
  refine MI_of (by decide) (Nat.le_of_ble_eq_true rfl) ?_
  intro p e s m args below meth c X hr hlocks
  refine j_lv (lv1 := [(0, .ref (ad 12))]) [0] rfl ?_
  refine j_aload_n X 0 rfl rfl dX0_endedMany_0 ?_
  refine j_callVI X (nn := 0) (As := []) (st := []) (ci := 0) (by decide) (wE_0 _ rfl) rfl aw_466 aw_467 (g_setEnded_12 l D y ad M n (by omega) hm) aw_465 aw_468 aw_20 (by decide +kernel) ⟨by decide, by decide⟩ rfl (Nat.le_of_ble_eq_true rfl) ⟨by decide, by decide⟩ dX0_endedMany_1 ?_
  rintro r_ M1_ ⟨rfl, rfl⟩
  refine j_callSI X (nn := 1) (As := [.int (setB (fun i => !decide (M (14 + i) 6 = 0)) n)]) (st := []) aw_470 (g_bitCount l D y ad M (setB (fun i => !decide (M (14 + i) 6 = 0)) n)) aw_469 aw_472 aw_471 (by decide +kernel) ⟨by decide, by decide⟩ rfl (Nat.le_of_ble_eq_true rfl) ⟨by decide, by decide⟩ dX0_endedMany_4 ?_
  rintro r_1 M1_ rfl
  exact j_iret X hr hlocks dX0_endedMany_7 rfl
set_option maxRecDepth 100000 in
set_option maxHeartbeats 4000000 in
theorem g_endedMany_49 (l : Launch) (D : va_G) (y : wY) (ad : Nat → Nat) (M : Mem) (n : Nat) (hn : n ≤ 9) (hm : M 49 3 = nI n) : MI l D y ad yX0_endedMany (Cond.code yX0_endedMany cX0_endedMany 1 (some .int)) 1 M [.ref (ad 49)] (fun _ M' => M = M') := by
  refine MI_of (by decide) (Nat.le_of_ble_eq_true rfl) ?_
  intro p e s m args below meth c X hr hlocks
  refine j_lv (lv1 := [(0, .ref (ad 49))]) [0] rfl ?_
  refine j_aload_n X 0 rfl rfl dX0_endedMany_0 ?_
  refine j_callVI X (nn := 0) (As := []) (st := []) (ci := 0) (by decide) (wE_0 _ rfl) rfl aw_466 aw_467 (g_setEnded_49 l D y ad M n (by omega) hm) aw_465 aw_468 aw_20 (by decide +kernel) ⟨by decide, by decide⟩ rfl (Nat.le_of_ble_eq_true rfl) ⟨by decide, by decide⟩ dX0_endedMany_1 ?_
  rintro r_ M1_ ⟨rfl, rfl⟩
  refine j_callSI X (nn := 1) (As := [.int (setB (fun i => !decide (M (51 + i) 6 = 0)) n)]) (st := []) aw_470 (g_bitCount l D y ad M (setB (fun i => !decide (M (51 + i) 6 = 0)) n)) aw_469 aw_472 aw_471 (by decide +kernel) ⟨by decide, by decide⟩ rfl (Nat.le_of_ble_eq_true rfl) ⟨by decide, by decide⟩ dX0_endedMany_4 ?_
  rintro r_1 M1_ rfl
  exact j_iret X hr hlocks dX0_endedMany_7 rfl
set_option maxRecDepth 100000 in
set_option maxHeartbeats 4000000 in
theorem g_edgesTogether_12 (l : Launch) (D : va_G) (y : wY) (ad : Nat → Nat) (M : Mem) (n : Nat) (hn : n ≤ 9) (hm : M 12 3 = nI n) : MI l D y ad yX0_edgesTogether (Cond.code yX0_edgesTogether cX0_edgesTogether 3 (some .int)) 0 M [.ref (ad 12)] (fun _ M' => M = M') := by
  refine MI_of (by decide) (Nat.le_of_ble_eq_true rfl) ?_
  intro p e s m args below meth c X hr hlocks
  refine j_lv (lv1 := [(0, .ref (ad 12))]) [0] rfl ?_
  refine j_iconst X (v := 0) (by decide) dX0_edgesTogether_0 ?_
  refine j_istore_n X [(1, .int 0), (0, .ref (ad 12))] rfl (by decide) rfl dX0_edgesTogether_1 ?_
  refine j_iconst X (v := 0) (by decide) dX0_edgesTogether_2 ?_
  refine j_istore_n X [(2, .int 0), (1, .int 0), (0, .ref (ad 12))] rfl (by decide) rfl dX0_edgesTogether_3 ?_
  have loop1 : ∀ (n_1 i_1 : Nat) (v1_i_1 : Int32), i_1 ≤ n → n - i_1 < n_1 → J p l e (rmN 0) s m args below meth c 0 0 (QI (fun _ M' => M = M') D y ad M s args below) D y ad (va_A (PL y ad M) s.heap.size) 3 M 4 [(2, .int (nI i_1)), (0, .ref (ad 12)), (1, .int v1_i_1)] [] := by
    intro n_1
    induction n_1 with
    | zero => intro i_1  v1_i_1 h1 h2; exact absurd h2 (by omega)
    | succ n_1 ih1 =>
      intro i_1  v1_i_1 h1i_1 h2i_1 
      refine j_iload_n X 0 rfl rfl dX0_edgesTogether_4 ?_
      refine j_aload_n X 1 rfl rfl dX0_edgesTogether_5 ?_
      refine j_get X (by decide) (wE_0 _ rfl) rfl awF0 3 (by decide) aw_155 rfl (v := .int (M 12 3)) rfl dX0_edgesTogether_6 ?_
      refine j_eqi (v := (nI n)) hm ?_
      refine j_icmp_ge X 30 (by decide) dX0_edgesTogether_9 (fun c_2 => ?_) (fun c_2 => ?_)
      · have c_2 := (nI_leI (by omega) (by omega)).mp (show nI (n) ≤ nI i_1 from c_2)
        refine j_iload_n X 2 rfl rfl dX0_edgesTogether_30 ?_
        exact j_iret X hr hlocks dX0_edgesTogether_31 rfl
      · have c_2 : i_1 < n := by
          rcases Nat.lt_or_ge i_1 (n) with g | g
          · exact g
          · exact absurd (show nI (n) ≤ nI i_1 from nI_le g (by omega)) c_2
        refine j_iload_n X 2 rfl rfl dX0_edgesTogether_12 ?_
        refine j_aload_n X 1 rfl rfl dX0_edgesTogether_13 ?_
        refine j_get X (by decide) (wE_0 _ rfl) rfl awF0 2 (by decide) aw_60 rfl (v := .ref (ad 13)) rfl dX0_edgesTogether_14 ?_
        refine j_iload_n X 0 rfl rfl dX0_edgesTogether_17 ?_
        refine j_aald10 X (by decide) rfl (show vp_in (nI i_1) 9 from vp_in_nI (by omega) (by decide)) dX0_edgesTogether_18 ?_
        refine j_eqr (v := 14 + i_1) (by rw [nI_clamp (by omega)]; exact rf_one12 (by omega)) ?_
        refine j_getN X (by omega) (wE_1 _ (kd_one12 (by omega))) rfl awF1 3 (by decide) (List.mem_of_getElem? (i := 7) rfl) rfl (v := .int (M (14 + i_1) 3)) rfl dX0_edgesTogether_19 ?_
        refine j_iadd X dX0_edgesTogether_22 ?_
        refine j_istore_n X [(1, .int (v1_i_1 + (M (14 + i_1) 3))), (2, .int (nI i_1)), (0, .ref (ad 12))] rfl (by decide) rfl dX0_edgesTogether_23 ?_
        refine j_iinc X (v := (nI (i_1 + 1))) 1 [(2, .int (nI (i_1 + 1))), (1, .int (v1_i_1 + (M (14 + i_1) 3))), (0, .ref (ad 12))] rfl (show nI i_1 + Int32.ofInt 1 = _ from nI_1 i_1) (by decide) rfl dX0_edgesTogether_24 ?_
        refine j_goto X 4 (by decide) dX0_edgesTogether_27 ?_
        refine j_lv (lv1 := [(2, .int (nI (i_1 + 1))), (0, .ref (ad 12)), (1, .int (v1_i_1 + (M (14 + i_1) 3)))]) [0, 2, 1] rfl ?_
        exact ih1 (i_1 + 1) _ (by omega) (by omega) 
  refine j_lv (lv1 := [(2, .int (nI 0)), (0, .ref (ad 12)), (1, .int 0)]) [0, 2, 1] rfl ?_
  exact loop1 (n + 1) 0 _ (by omega) (by omega)
set_option maxRecDepth 100000 in
set_option maxHeartbeats 4000000 in
theorem g_setFree_12 (l : Launch) (D : va_G) (y : wY) (ad : Nat → Nat) (M : Mem) (n : Nat) (hn : n ≤ 9) (hm : M 12 3 = nI n) : MI l D y ad yX0_setFree (Cond.code yX0_setFree cX0_setFree 3 (some .int)) 2 M [.ref (ad 12)] (fun _ M' => M = M') := by
  refine MI_of (by decide) (Nat.le_of_ble_eq_true rfl) ?_
  intro p e s m args below meth c X hr hlocks
  refine j_lv (lv1 := [(0, .ref (ad 12))]) [0] rfl ?_
  refine j_iconst X (v := 0) (by decide) dX0_setFree_0 ?_
  refine j_istore_n X [(1, .int 0), (0, .ref (ad 12))] rfl (by decide) rfl dX0_setFree_1 ?_
  refine j_iconst X (v := 0) (by decide) dX0_setFree_2 ?_
  refine j_istore_n X [(2, .int 0), (1, .int 0), (0, .ref (ad 12))] rfl (by decide) rfl dX0_setFree_3 ?_
  have loop1 : ∀ (n_1 i_1 : Nat) (v1_i_1 : Int32), i_1 ≤ n → n - i_1 < n_1 → J p l e (rmN 2) s m args below meth c 0 0 (QI (fun _ M' => M = M') D y ad M s args below) D y ad (va_A (PL y ad M) s.heap.size) 3 M 4 [(2, .int (nI i_1)), (0, .ref (ad 12)), (1, .int v1_i_1)] [] := by
    intro n_1
    induction n_1 with
    | zero => intro i_1  v1_i_1 h1 h2; exact absurd h2 (by omega)
    | succ n_1 ih1 =>
      intro i_1  v1_i_1 h1i_1 h2i_1 
      refine j_iload_n X 0 rfl rfl dX0_setFree_4 ?_
      refine j_aload_n X 1 rfl rfl dX0_setFree_5 ?_
      refine j_get X (by decide) (wE_0 _ rfl) rfl awF0 3 (by decide) aw_155 rfl (v := .int (M 12 3)) rfl dX0_setFree_6 ?_
      refine j_eqi (v := (nI n)) hm ?_
      refine j_icmp_ge X 53 (by decide) dX0_setFree_9 (fun c_2 => ?_) (fun c_2 => ?_)
      · have c_2 := (nI_leI (by omega) (by omega)).mp (show nI (n) ≤ nI i_1 from c_2)
        refine j_iload_n X 2 rfl rfl dX0_setFree_53 ?_
        exact j_iret X hr hlocks dX0_setFree_54 rfl
      · have c_2 : i_1 < n := by
          rcases Nat.lt_or_ge i_1 (n) with g | g
          · exact g
          · exact absurd (show nI (n) ≤ nI i_1 from nI_le g (by omega)) c_2
        refine j_iload_n X 2 rfl rfl dX0_setFree_12 ?_
        refine j_aload_n X 1 rfl rfl dX0_setFree_13 ?_
        refine j_get X (by decide) (wE_0 _ rfl) rfl awF0 2 (by decide) aw_60 rfl (v := .ref (ad 13)) rfl dX0_setFree_14 ?_
        refine j_iload_n X 0 rfl rfl dX0_setFree_17 ?_
        refine j_aald10 X (by decide) rfl (show vp_in (nI i_1) 9 from vp_in_nI (by omega) (by decide)) dX0_setFree_18 ?_
        refine j_eqr (v := 14 + i_1) (by rw [nI_clamp (by omega)]; exact rf_one12 (by omega)) ?_
        refine j_getN X (by omega) (wE_1 _ (kd_one12 (by omega))) rfl awF1 6 (by decide) (List.mem_of_getElem? (i := 13) rfl) rfl (v := .int (M (14 + i_1) 6)) rfl dX0_setFree_19 ?_
        refine j_if_ne X 44 (by decide) dX0_setFree_22 (fun c_3 => ?_) (fun c_3 => ?_)
        · have qc_3 := ti_ne (n := 0) (by decide) c_3
          refine j_iconst X (v := 0) (by decide) dX0_setFree_44 ?_
          refine j_ior X dX0_setFree_45 ?_
          refine j_istore_n X [(1, .int (v1_i_1 ||| 0)), (2, .int (nI i_1)), (0, .ref (ad 12))] rfl (by decide) rfl dX0_setFree_46 ?_
          refine j_iinc X (v := (nI (i_1 + 1))) 1 [(2, .int (nI (i_1 + 1))), (1, .int (v1_i_1 ||| 0)), (0, .ref (ad 12))] rfl (show nI i_1 + Int32.ofInt 1 = _ from nI_1 i_1) (by decide) rfl dX0_setFree_47 ?_
          refine j_goto X 4 (by decide) dX0_setFree_50 ?_
          refine j_lv (lv1 := [(2, .int (nI (i_1 + 1))), (0, .ref (ad 12)), (1, .int (v1_i_1 ||| 0))]) [0, 2, 1] rfl ?_
          exact ih1 (i_1 + 1) _ (by omega) (by omega) 
        · have qc_3 := ti_eq (n := 0) (by decide) c_3
          refine j_aload_n X 1 rfl rfl dX0_setFree_25 ?_
          refine j_aload_n X 1 rfl rfl dX0_setFree_26 ?_
          refine j_get X (by decide) (wE_0 _ rfl) rfl awF0 2 (by decide) aw_60 rfl (v := .ref (ad 13)) rfl dX0_setFree_27 ?_
          refine j_iload_n X 0 rfl rfl dX0_setFree_30 ?_
          refine j_aald10 X (by decide) rfl (show vp_in (nI i_1) 9 from vp_in_nI (by omega) (by decide)) dX0_setFree_31 ?_
          refine j_eqr (v := 14 + i_1) (by rw [nI_clamp (by omega)]; exact rf_one12 (by omega)) ?_
          refine j_callVI X (nn := 1) (As := [.ref (ad (14 + i_1))]) (st := [.int v1_i_1]) (ci := 0) (by decide) (wE_0 _ rfl) rfl aw_459 aw_460 (g_isFree_12 l D y ad M n (by omega) hm i_1 (by omega)) aw_458 aw_461 aw_20 (by decide +kernel) ⟨by decide, by decide⟩ rfl (Nat.le_of_ble_eq_true rfl) ⟨by decide, by decide⟩ dX0_setFree_32 ?_
          rintro r_ M1_ (⟨rfl, rfl⟩ | ⟨rfl, rfl⟩)
          · refine j_if_eq X 44 (by decide) dX0_setFree_35 (fun c_4 => ?_) (fun c_4 => False.elim (by revert c_4; decide))
            refine j_iconst X (v := 0) (by decide) dX0_setFree_44 ?_
            refine j_ior X dX0_setFree_45 ?_
            refine j_istore_n X [(1, .int (v1_i_1 ||| 0)), (2, .int (nI i_1)), (0, .ref (ad 12))] rfl (by decide) rfl dX0_setFree_46 ?_
            refine j_iinc X (v := (nI (i_1 + 1))) 1 [(2, .int (nI (i_1 + 1))), (1, .int (v1_i_1 ||| 0)), (0, .ref (ad 12))] rfl (show nI i_1 + Int32.ofInt 1 = _ from nI_1 i_1) (by decide) rfl dX0_setFree_47 ?_
            refine j_goto X 4 (by decide) dX0_setFree_50 ?_
            refine j_lv (lv1 := [(2, .int (nI (i_1 + 1))), (0, .ref (ad 12)), (1, .int (v1_i_1 ||| 0))]) [0, 2, 1] rfl ?_
            exact ih1 (i_1 + 1) _ (by omega) (by omega) 
          · refine j_if_eq X 44 (by decide) dX0_setFree_35 (fun c_5 => False.elim (by revert c_5; decide)) (fun c_5 => ?_)
            refine j_iconst X (v := 1) (by decide) dX0_setFree_38 ?_
            refine j_iload_n X 0 rfl rfl dX0_setFree_39 ?_
            refine j_ishl X dX0_setFree_40 ?_
            refine j_goto X 45 (by decide) dX0_setFree_41 ?_
            refine j_ior X dX0_setFree_45 ?_
            refine j_istore_n X [(1, .int (v1_i_1 ||| (1 <<< ((nI i_1) &&& 31)))), (2, .int (nI i_1)), (0, .ref (ad 12))] rfl (by decide) rfl dX0_setFree_46 ?_
            refine j_iinc X (v := (nI (i_1 + 1))) 1 [(2, .int (nI (i_1 + 1))), (1, .int (v1_i_1 ||| (1 <<< ((nI i_1) &&& 31)))), (0, .ref (ad 12))] rfl (show nI i_1 + Int32.ofInt 1 = _ from nI_1 i_1) (by decide) rfl dX0_setFree_47 ?_
            refine j_goto X 4 (by decide) dX0_setFree_50 ?_
            refine j_lv (lv1 := [(2, .int (nI (i_1 + 1))), (0, .ref (ad 12)), (1, .int (v1_i_1 ||| (1 <<< ((nI i_1) &&& 31))))]) [0, 2, 1] rfl ?_
            exact ih1 (i_1 + 1) _ (by omega) (by omega) 
  refine j_lv (lv1 := [(2, .int (nI 0)), (0, .ref (ad 12)), (1, .int 0)]) [0, 2, 1] rfl ?_
  exact loop1 (n + 1) 0 _ (by omega) (by omega)
set_option maxRecDepth 100000 in
set_option maxHeartbeats 4000000 in
theorem g_sharpen_49 (l : Launch) (D : va_G) (y : wY) (ad : Nat → Nat) (M : Mem) (n : Nat) (hn : n ≤ 9) (hm : M 49 3 = nI n) (set0 : Int32) : MV l D y ad yX0_sharpen (Cond.code yX0_sharpen cX0_sharpen 3 none) 0 M [.ref (ad 49), .int set0] (fun M' => sm (fun b k => decide (51 ≤ b) && decide (b ≤ 59) && k == 3) M M') := by
  refine MV_of (by decide) (Nat.le_of_ble_eq_true rfl) ?_
  intro p e s m args below meth c X hr hlocks
  refine j_lv (lv1 := [(0, .ref (ad 49)), (1, .int set0)]) [0, 1] rfl ?_
  refine j_iconst X (v := 0) (by decide) dX0_sharpen_0 ?_
  refine j_istore_n X [(2, .int 0), (0, .ref (ad 49)), (1, .int set0)] rfl (by decide) rfl dX0_sharpen_1 ?_
  have loop1 : ∀ (n_1 i_1 : Nat) (M1 : Mem), i_1 ≤ n → n - i_1 < n_1 → sm (fun b k => decide (51 ≤ b) && decide (b ≤ 59) && k == 3) M M1 → J p l e (rmN 0) s m args below meth c 0 0 (QV (fun M' => sm (fun b k => decide (51 ≤ b) && decide (b ≤ 59) && k == 3) M M') D y ad M s args below) D y ad (va_A (PL y ad M) s.heap.size) 3 M1 2 [(2, .int (nI i_1)), (0, .ref (ad 49)), (1, .int set0)] [] := by
    intro n_1
    induction n_1 with
    | zero => intro i_1 M1 h1 h2; exact absurd h2 (by omega)
    | succ n_1 ih1 =>
      intro i_1 M1 h1i_1 h2i_1 hs1
      refine j_iload_n X 0 rfl rfl dX0_sharpen_2 ?_
      refine j_aload_n X 1 rfl rfl dX0_sharpen_3 ?_
      refine j_get X (by decide) (wE_0 _ rfl) rfl awF0 3 (by decide) aw_155 rfl (v := .int (M1 49 3)) rfl dX0_sharpen_4 ?_
      refine j_eqi (v := (nI n)) ((hs1 49 3 rfl).trans hm) ?_
      refine j_icmp_ge X 35 (by decide) dX0_sharpen_7 (fun c_2 => ?_) (fun c_2 => ?_)
      · have c_2 := (nI_leI (by omega) (by omega)).mp (show nI (n) ≤ nI i_1 from c_2)
        exact j_vret X hr hlocks dX0_sharpen_35 (sm_tr sm_rf (sm_w hs1 (by intro b k hb; first | rfl | exact hb | (simp only [Bool.or_eq_false_iff, Bool.and_eq_false_iff, beq_eq_false_iff_ne, ne_eq, decide_eq_false_iff_not] at hb ⊢; omega))))
      · have c_2 : i_1 < n := by
          rcases Nat.lt_or_ge i_1 (n) with g | g
          · exact g
          · exact absurd (show nI (n) ≤ nI i_1 from nI_le g (by omega)) c_2
        refine j_iload_n X 2 rfl rfl dX0_sharpen_10 ?_
        refine j_iload_n X 0 rfl rfl dX0_sharpen_11 ?_
        refine j_ishr X dX0_sharpen_12 ?_
        refine j_iconst X (v := 1) (by decide) dX0_sharpen_13 ?_
        refine j_iand X dX0_sharpen_14 ?_
        refine j_if_eq X 29 (by decide) dX0_sharpen_15 (fun c_3 => ?_) (fun c_3 => ?_)
        · refine j_iinc X (v := (nI (i_1 + 1))) 0 [(2, .int (nI (i_1 + 1))), (0, .ref (ad 49)), (1, .int set0)] rfl (show nI i_1 + Int32.ofInt 1 = _ from nI_1 i_1) (by decide) rfl dX0_sharpen_29 ?_
          refine j_goto X 2 (by decide) dX0_sharpen_32 ?_
          refine j_lv (lv1 := [(2, .int (nI (i_1 + 1))), (0, .ref (ad 49)), (1, .int set0)]) [0, 1, 2] rfl ?_
          exact ih1 (i_1 + 1) _ (by omega) (by omega) hs1
        · refine j_aload_n X 1 rfl rfl dX0_sharpen_18 ?_
          refine j_get X (by decide) (wE_0 _ rfl) rfl awF0 2 (by decide) aw_60 rfl (v := .ref (ad 50)) rfl dX0_sharpen_19 ?_
          refine j_iload_n X 0 rfl rfl dX0_sharpen_22 ?_
          refine j_aald10 X (by decide) rfl (show vp_in (nI i_1) 9 from vp_in_nI (by omega) (by decide)) dX0_sharpen_23 ?_
          refine j_eqr (v := 51 + i_1) (by rw [nI_clamp (by omega)]; exact rf_one49 (by omega)) ?_
          refine j_bipush X (v := 99) (by decide) dX0_sharpen_24 ?_
          refine j_putN X (up M1 (51 + i_1) 3 99) up_o (by omega) (wE_1 _ (kd_one49 (by omega))) rfl awF1 3 (by decide) (wP_1_3 _ _ (kd_one49 (by omega))) tyX1 tyX1_ok nmX1 rfl (ty := .int) (by decide +kernel) rfl rfl (Nat.le_of_ble_eq_true rfl) (List.mem_of_getElem? (i := 7) rfl) rfl dX0_sharpen_26 ?_
          refine j_iinc X (v := (nI (i_1 + 1))) 0 [(2, .int (nI (i_1 + 1))), (0, .ref (ad 49)), (1, .int set0)] rfl (show nI i_1 + Int32.ofInt 1 = _ from nI_1 i_1) (by decide) rfl dX0_sharpen_29 ?_
          refine j_goto X 2 (by decide) dX0_sharpen_32 ?_
          refine j_lv (lv1 := [(2, .int (nI (i_1 + 1))), (0, .ref (ad 49)), (1, .int set0)]) [0, 1, 2] rfl ?_
          exact ih1 (i_1 + 1) _ (by omega) (by omega) (sm_up hs1 (by first | rfl | (simp; done) | (simp; omega) | (simp only [Bool.and_eq_true, Bool.or_eq_true, decide_eq_true_eq, beq_iff_eq]; omega)))
  refine j_lv (lv1 := [(2, .int (nI 0)), (0, .ref (ad 49)), (1, .int set0)]) [0, 1, 2] rfl ?_
  exact loop1 (n + 1) 0 _ (by omega) (by omega) sm_rf
set_option maxRecDepth 100000 in
set_option maxHeartbeats 4000000 in
theorem g_refuse (l : Launch) (D : va_G) (y : wY) (ad : Nat → Nat) (M : Mem) (v : Int32) (i : Nat) (hv : (-1000000000) - v = nI i) (hi : i < 6) : MI l D y ad yX7_refuse (Cond.code yX7_refuse cX7_refuse 2 (some .int)) 0 M [.ref (ad 0), .int v] (fun r M' => v = r ∧ sm (fun b _ => b == 78) M M') := by
  refine MI_of (by decide) (Nat.le_of_ble_eq_true rfl) ?_
  intro p e s m args below meth c X hr hlocks
  refine j_lv (lv1 := [(0, .ref (ad 0)), (1, .int v)]) [0, 1] rfl ?_
  refine j_aload_n X 0 rfl rfl dX7_refuse_0 ?_
  refine j_get X (by decide) (wE_7 _ rfl) rfl awF7 6 (by decide) aw_33 rfl (v := .ref (ad 78)) rfl dX7_refuse_1 ?_
  refine j_ldcw X (v := (-1000000000)) aw_120 dX7_refuse_4 ?_
  refine j_iload_n X 1 rfl rfl dX7_refuse_7 ?_
  refine j_isub X dX7_refuse_8 ?_
  refine j_dup2 X rfl rfl dX7_refuse_9 ?_
  refine j_iald X (by decide) rfl (by rw [hv]; exact vp_in_nI hi (by decide)) dX7_refuse_10 ?_
  refine j_eqi (v := M 78 i) (by rw [hv, nI_clamp (by omega)]) ?_
  refine j_iconst X (v := 1) (by decide) dX7_refuse_11 ?_
  refine j_iadd X dX7_refuse_12 ?_
  refine j_iast X (by decide) rfl (by rw [hv]; exact vp_in_nI hi (by decide)) dX7_refuse_13 ?_
  refine j_eqM (M1 := (up M 78 i ((M 78 i) + 1))) (by rw [hv, nI_clamp (by omega)]) ?_
  refine j_iload_n X 1 rfl rfl dX7_refuse_14 ?_
  exact j_iret X hr hlocks dX7_refuse_15 ⟨rfl, sm_up sm_rf rfl⟩
set_option maxRecDepth 100000 in
set_option maxHeartbeats 4000000 in
theorem g_isQuarrel (l : Launch) (D : va_G) (y : wY) (ad : Nat → Nat) (M : Mem) (n : Nat) (hn : n ≤ 9) (hm : M 12 3 = nI n) (q : Int32) : MI l D y ad yX7_isQuarrel (Cond.code yX7_isQuarrel cX7_isQuarrel 2 (some .boolean)) 1 M [.ref (ad 0), .int q] (fun r M' => (1 = r ∧ M = M' ∧ 0 ≤ q.toInt ∧ q.toInt < n) ∨ (0 = r ∧ M = M')) := by
  refine MI_of (by decide) (Nat.le_of_ble_eq_true rfl) ?_
  intro p e s m args below meth c X hr hlocks
  refine j_lv (lv1 := [(0, .ref (ad 0)), (1, .int q)]) [0, 1] rfl ?_
  refine j_iload_n X 1 rfl rfl dX7_isQuarrel_0 ?_
  refine j_iconst X (v := 0) (by decide) dX7_isQuarrel_1 ?_
  refine j_aload_n X 0 rfl rfl dX7_isQuarrel_2 ?_
  refine j_get X (by decide) (wE_7 _ rfl) rfl awF7 0 (by decide) aw_16 rfl (v := .ref (ad 1)) rfl dX7_isQuarrel_3 ?_
  refine j_getN X (by decide) (wE_6 _ rfl) rfl awF6 2 (by decide) (List.mem_of_getElem? (i := 23) rfl) rfl (v := .ref (ad 12)) rfl dX7_isQuarrel_6 ?_
  refine j_getN X (by decide) (wE_0 _ rfl) rfl awF0 3 (by decide) (List.mem_of_getElem? (i := 15) rfl) rfl (v := .int (M 12 3)) rfl dX7_isQuarrel_9 ?_
  refine j_eqi (v := (nI n)) hm ?_
  refine j_iconst X (v := 1) (by decide) dX7_isQuarrel_12 ?_
  refine j_isub X dX7_isQuarrel_13 ?_
  refine j_callSI X (nn := 3) (As := [.int q, .int 0, .int ((nI n) - 1)]) (st := []) aw_110 (g_X7_isWithin l D y ad M q 0 ((nI n) - 1) 0 (((n : Nat) : Int) - 1) (by decide) (nI_m1 (by omega))) aw_109 aw_111 aw_2 (by decide +kernel) ⟨by decide, by decide⟩ rfl (Nat.le_of_ble_eq_true rfl) ⟨by decide, by decide⟩ dX7_isQuarrel_14 ?_
  rintro r_ M1_ (⟨rfl, rfl, h_1⟩ | ⟨rfl, rfl, h_1⟩)
  · exact j_zret X hr hlocks (Or.inr rfl) dX7_isQuarrel_17 (Or.inl ⟨rfl, rfl, by omega⟩)
  · exact j_zret X hr hlocks (Or.inl rfl) dX7_isQuarrel_17 (Or.inr ⟨rfl, rfl⟩)
set_option maxRecDepth 100000 in
set_option maxHeartbeats 4000000 in
theorem g_greatestOf (l : Launch) (D : va_G) (y : wY) (ad : Nat → Nat) (M : Mem) (v : Int32) : MI l D y ad yX7_greatestOf (Cond.code yX7_greatestOf cX7_greatestOf 3 (some .int)) 0 M [.int v] (fun _ M' => M = M') := by
  refine MI_of (by decide) (Nat.le_of_ble_eq_true rfl) ?_
  intro p e s m args below meth c X hr hlocks
  refine j_lv (lv1 := [(0, .int v)]) [0] rfl ?_
  refine j_iconst X (v := (-1)) (by decide) dX7_greatestOf_0 ?_
  refine j_istore_n X [(1, .int (-1)), (0, .int v)] rfl (by decide) rfl dX7_greatestOf_1 ?_
  refine j_iconst X (v := 0) (by decide) dX7_greatestOf_2 ?_
  refine j_istore_n X [(2, .int 0), (1, .int (-1)), (0, .int v)] rfl (by decide) rfl dX7_greatestOf_3 ?_
  have loop1 : ∀ (n_1 i_1 : Nat) (v1_i_1 : Int32), i_1 ≤ 9 → 9 - i_1 < n_1 → J p l e (rmN 0) s m args below meth c 0 0 (QI (fun _ M' => M = M') D y ad M s args below) D y ad (va_A (PL y ad M) s.heap.size) 3 M 4 [(2, .int (nI i_1)), (0, .int v), (1, .int v1_i_1)] [] := by
    intro n_1
    induction n_1 with
    | zero => intro i_1  v1_i_1 h1 h2; exact absurd h2 (by omega)
    | succ n_1 ih1 =>
      intro i_1  v1_i_1 h1i_1 h2i_1 
      refine j_iload_n X 0 rfl rfl dX7_greatestOf_4 ?_
      refine j_bipush X (v := 9) (by decide) dX7_greatestOf_5 ?_
      refine j_icmp_ge X 26 (by decide) dX7_greatestOf_7 (fun c_2 => ?_) (fun c_2 => ?_)
      · have c_2 := (nI_leI (by omega) (by omega)).mp (show nI (9) ≤ nI i_1 from c_2)
        refine j_iload_n X 2 rfl rfl dX7_greatestOf_26 ?_
        exact j_iret X hr hlocks dX7_greatestOf_27 rfl
      · have c_2 : i_1 < 9 := by
          rcases Nat.lt_or_ge i_1 (9) with g | g
          · exact g
          · exact absurd (show nI (9) ≤ nI i_1 from nI_le g (by omega)) c_2
        refine j_iload_n X 1 rfl rfl dX7_greatestOf_10 ?_
        refine j_iload_n X 0 rfl rfl dX7_greatestOf_11 ?_
        refine j_ishr X dX7_greatestOf_12 ?_
        refine j_iconst X (v := 1) (by decide) dX7_greatestOf_13 ?_
        refine j_iand X dX7_greatestOf_14 ?_
        refine j_if_eq X 20 (by decide) dX7_greatestOf_15 (fun c_3 => ?_) (fun c_3 => ?_)
        · refine j_iinc X (v := (nI (i_1 + 1))) 0 [(2, .int (nI (i_1 + 1))), (0, .int v), (1, .int v1_i_1)] rfl (show nI i_1 + Int32.ofInt 1 = _ from nI_1 i_1) (by decide) rfl dX7_greatestOf_20 ?_
          refine j_goto X 4 (by decide) dX7_greatestOf_23 ?_
          refine j_lv (lv1 := [(2, .int (nI (i_1 + 1))), (0, .int v), (1, .int v1_i_1)]) [0, 1, 2] rfl ?_
          exact ih1 (i_1 + 1) _ (by omega) (by omega) 
        · refine j_iload_n X 0 rfl rfl dX7_greatestOf_18 ?_
          refine j_istore_n X [(1, .int (nI i_1)), (2, .int (nI i_1)), (0, .int v)] rfl (by decide) rfl dX7_greatestOf_19 ?_
          refine j_iinc X (v := (nI (i_1 + 1))) 1 [(2, .int (nI (i_1 + 1))), (1, .int (nI i_1)), (0, .int v)] rfl (show nI i_1 + Int32.ofInt 1 = _ from nI_1 i_1) (by decide) rfl dX7_greatestOf_20 ?_
          refine j_goto X 4 (by decide) dX7_greatestOf_23 ?_
          refine j_lv (lv1 := [(2, .int (nI (i_1 + 1))), (0, .int v), (1, .int (nI i_1))]) [0, 2, 1] rfl ?_
          exact ih1 (i_1 + 1) _ (by omega) (by omega) 
  refine j_lv (lv1 := [(2, .int (nI 0)), (0, .int v), (1, .int (-1))]) [0, 2, 1] rfl ?_
  exact loop1 (9 + 1) 0 _ (by omega) (by omega)
theorem sme_b1 {b q : Nat} {M M1 : Mem} (h : sme b M M1) (hq : q < 9) (hB : BoolOK (M (b + q) 6)) : BoolOK (M1 (b + q) 6) := by
  rcases h q hq with e | e
  · rw [e]; exact hB
  · rw [e]; exact Or.inr rfl
set_option maxRecDepth 100000 in
set_option maxHeartbeats 4000000 in
theorem g_endsInThought (l : Launch) (D : va_G) (y : wY) (ad : Nat → Nat) (M : Mem) (n : Nat) (hn : n ≤ 9) (hm : M 49 3 = nI n) (z2 z7 : Nat) (hT2 : TextOK M 2 z2) (hT7 : TextOK M 7 z7) (q : Nat) (hq : q < n) (N : Nat) (hN : N ≤ 60) (hBt : ∀ q, q < n → BoolOK (M (51 + q) 6)) : MI l D y ad yX7_endsInThought (Cond.code yX7_endsInThought cX7_endsInThought 5 (some .boolean)) 7 M [.ref (ad 0), .int (nI q), .int (nI N)] (fun r M' => (0 = r ∧ sm (fun b k => b == 6 || b == 11 || (b == 49 && (k == 4 || k == 6 || k == 7 || k == 8)) || (decide (51 ≤ b) && decide (b ≤ 59) && (k == 3 || k == 5 || k == 6))) M M') ∨ (1 = r ∧ sm (fun b k => b == 6 || b == 11 || (b == 49 && (k == 4 || k == 6 || k == 7 || k == 8)) || (decide (51 ≤ b) && decide (b ≤ 59) && (k == 3 || k == 5 || k == 6))) M M')) := by
  refine MI_of (by decide) (Nat.le_of_ble_eq_true rfl) ?_
  intro p e s m args below meth c X hr hlocks
  refine j_lv (lv1 := [(0, .ref (ad 0)), (1, .int (nI q)), (2, .int (nI N))]) [0, 1, 2] rfl ?_
  refine j_aload_n X 0 rfl rfl dX7_endsInThought_0 ?_
  refine j_get X (by decide) (wE_7 _ rfl) rfl awF7 2 (by decide) aw_21 rfl (v := .ref (ad 49)) rfl dX7_endsInThought_1 ?_
  refine j_getN X (by decide) (wE_0 _ rfl) rfl awF0 2 (by decide) (List.mem_of_getElem? (i := 14) rfl) rfl (v := .ref (ad 50)) rfl dX7_endsInThought_4 ?_
  refine j_iload_n X 1 rfl rfl dX7_endsInThought_7 ?_
  refine j_aald10 X (by decide) rfl (show vp_in (nI q) 9 from vp_in_nI (by omega) (by decide)) dX7_endsInThought_8 ?_
  refine j_eqr (v := 51 + q) (by rw [nI_clamp (by omega)]; exact rf_one49 (by omega)) ?_
  refine j_astore_n X [(3, .ref (ad (51 + q))), (0, .ref (ad 0)), (1, .int (nI q)), (2, .int (nI N))] rfl (by decide) rfl dX7_endsInThought_9 ?_
  refine j_iconst X (v := 0) (by decide) dX7_endsInThought_10 ?_
  refine j_istore X [(4, .int 0), (3, .ref (ad (51 + q))), (0, .ref (ad 0)), (1, .int (nI q)), (2, .int (nI N))] (by decide) rfl dX7_endsInThought_11 ?_
  have loop1 : ∀ (n_1 i_1 : Nat) (M1 : Mem), i_1 ≤ N → N - i_1 < n_1 → sm (fun b k => b == 6 || b == 11 || (b == 49 && (k == 4 || k == 6 || k == 7 || k == 8)) || (decide (51 ≤ b) && decide (b ≤ 59) && (k == 3 || k == 5 || k == 6))) M M1 → (sme 51 M M1) → J p l e (rmN 7) s m args below meth c 0 0 (QI (fun r M' => (0 = r ∧ sm (fun b k => b == 6 || b == 11 || (b == 49 && (k == 4 || k == 6 || k == 7 || k == 8)) || (decide (51 ≤ b) && decide (b ≤ 59) && (k == 3 || k == 5 || k == 6))) M M') ∨ (1 = r ∧ sm (fun b k => b == 6 || b == 11 || (b == 49 && (k == 4 || k == 6 || k == 7 || k == 8)) || (decide (51 ≤ b) && decide (b ≤ 59) && (k == 3 || k == 5 || k == 6))) M M')) D y ad M s args below) D y ad (va_A (PL y ad M) s.heap.size) 5 M1 13 [(4, .int (nI i_1)), (0, .ref (ad 0)), (1, .int (nI q)), (2, .int (nI N)), (3, .ref (ad (51 + q)))] [] := by
    intro n_1
    induction n_1 with
    | zero => intro i_1 M1 h1 h2; exact absurd h2 (by omega)
    | succ n_1 ih1 =>
      intro i_1 M1 h1i_1 h2i_1 hs1 hvi_1
      refine j_iload X 0 rfl dX7_endsInThought_13 ?_
      refine j_iload_n X 3 rfl rfl dX7_endsInThought_15 ?_
      refine j_icmp_ge X 40 (by decide) dX7_endsInThought_16 (fun c_2 => ?_) (fun c_2 => ?_)
      · have c_2 := (nI_leI (by omega) (by omega)).mp (show nI (N) ≤ nI i_1 from c_2)
        refine j_aload_n X 4 rfl rfl dX7_endsInThought_40 ?_
        refine j_getN X (by omega) (wE_1 _ (kd_one49 (by omega))) rfl awF1 6 (by decide) (List.mem_of_getElem? (i := 12) rfl) rfl (v := .int (M1 (51 + q) 6)) rfl dX7_endsInThought_41 ?_
        exact j_zret X hr hlocks (sme_b1 hvi_1 (by omega) (hBt q hq)) dX7_endsInThought_44 (by rcases sme_b1 hvi_1 (by omega) (hBt q hq) with e0 | e0; exact Or.inl ⟨e0.symm, (sm_tr sm_rf (sm_w hs1 (by intro b k hb; first | rfl | exact hb | (simp only [Bool.or_eq_false_iff, Bool.and_eq_false_iff, beq_eq_false_iff_ne, ne_eq, decide_eq_false_iff_not] at hb ⊢; omega))))⟩; exact Or.inr ⟨e0.symm, (sm_tr sm_rf (sm_w hs1 (by intro b k hb; first | rfl | exact hb | (simp only [Bool.or_eq_false_iff, Bool.and_eq_false_iff, beq_eq_false_iff_ne, ne_eq, decide_eq_false_iff_not] at hb ⊢; omega))))⟩)
      · have c_2 : i_1 < N := by
          rcases Nat.lt_or_ge i_1 (N) with g | g
          · exact g
          · exact absurd (show nI (N) ≤ nI i_1 from nI_le g (by omega)) c_2
        refine j_aload_n X 4 rfl rfl dX7_endsInThought_19 ?_
        refine j_getN X (by omega) (wE_1 _ (kd_one49 (by omega))) rfl awF1 6 (by decide) (List.mem_of_getElem? (i := 12) rfl) rfl (v := .int (M1 (51 + q) 6)) rfl dX7_endsInThought_20 ?_
        refine j_if_ne X 40 (by decide) dX7_endsInThought_23 (fun c_3 => ?_) (fun c_3 => ?_)
        · have qc_3 := ti_ne (n := 0) (by decide) c_3
          refine j_aload_n X 4 rfl rfl dX7_endsInThought_40 ?_
          refine j_getN X (by omega) (wE_1 _ (kd_one49 (by omega))) rfl awF1 6 (by decide) (List.mem_of_getElem? (i := 12) rfl) rfl (v := .int (M1 (51 + q) 6)) rfl dX7_endsInThought_41 ?_
          exact j_zret X hr hlocks (sme_b1 hvi_1 (by omega) (hBt q hq)) dX7_endsInThought_44 (by rcases sme_b1 hvi_1 (by omega) (hBt q hq) with e0 | e0; exact Or.inl ⟨e0.symm, (sm_tr sm_rf (sm_w hs1 (by intro b k hb; first | rfl | exact hb | (simp only [Bool.or_eq_false_iff, Bool.and_eq_false_iff, beq_eq_false_iff_ne, ne_eq, decide_eq_false_iff_not] at hb ⊢; omega))))⟩; exact Or.inr ⟨e0.symm, (sm_tr sm_rf (sm_w hs1 (by intro b k hb; first | rfl | exact hb | (simp only [Bool.or_eq_false_iff, Bool.and_eq_false_iff, beq_eq_false_iff_ne, ne_eq, decide_eq_false_iff_not] at hb ⊢; omega))))⟩)
        · have qc_3 := ti_eq (n := 0) (by decide) c_3
          refine j_aload_n X 1 rfl rfl dX7_endsInThought_26 ?_
          refine j_get X (by decide) (wE_7 _ rfl) rfl awF7 2 (by decide) aw_21 rfl (v := .ref (ad 49)) rfl dX7_endsInThought_27 ?_
          refine j_iconst X (v := 0) (by decide) dX7_endsInThought_30 ?_
          refine j_callVNV X (nn := 1) (As := [.int 0]) (st := []) (ci := 0) (by decide) (wE_0 _ rfl) rfl aw_439 aw_440 (g_passDay_49 l D y ad M1 n (by omega) ((hs1 49 3 rfl).trans hm) z2 z7 (TextOK_keep (P := (fun b k => b == 6 || b == 11 || (b == 49 && (k == 4 || k == 6 || k == 7 || k == 8)) || (decide (51 ≤ b) && decide (b ≤ 59) && (k == 3 || k == 5 || k == 6)))) (sm_tr sm_rf (sm_w hs1 (by intro b k hb; first | rfl | exact hb | (simp only [Bool.or_eq_false_iff, Bool.and_eq_false_iff, beq_eq_false_iff_ne, ne_eq, decide_eq_false_iff_not] at hb ⊢; omega)))) (fun _ => rfl) (fun _ => rfl) (fun _ => rfl) (fun _ => rfl) hT2) (TextOK_keep (P := (fun b k => b == 6 || b == 11 || (b == 49 && (k == 4 || k == 6 || k == 7 || k == 8)) || (decide (51 ≤ b) && decide (b ≤ 59) && (k == 3 || k == 5 || k == 6)))) (sm_tr sm_rf (sm_w hs1 (by intro b k hb; first | rfl | exact hb | (simp only [Bool.or_eq_false_iff, Bool.and_eq_false_iff, beq_eq_false_iff_ne, ne_eq, decide_eq_false_iff_not] at hb ⊢; omega)))) (fun _ => rfl) (fun _ => rfl) (fun _ => rfl) (fun _ => rfl) hT7) 0) (List.mem_of_getElem? (i := 27) rfl) aw_441 aw_20 (by decide +kernel) ⟨by decide, by decide⟩ rfl (Nat.le_of_ble_eq_true rfl) ⟨by decide, by decide⟩ dX7_endsInThought_31 ?_
          rintro M_5 ⟨s_4, s_4_e⟩
          refine j_iinc X (v := (nI (i_1 + 1))) 0 [(4, .int (nI (i_1 + 1))), (0, .ref (ad 0)), (1, .int (nI q)), (2, .int (nI N)), (3, .ref (ad (51 + q)))] rfl (show nI i_1 + Int32.ofInt 1 = _ from nI_1 i_1) (by decide) rfl dX7_endsInThought_34 ?_
          refine j_goto X 13 (by decide) dX7_endsInThought_37 ?_
          refine j_lv (lv1 := [(4, .int (nI (i_1 + 1))), (0, .ref (ad 0)), (1, .int (nI q)), (2, .int (nI N)), (3, .ref (ad (51 + q)))]) [0, 1, 2, 3, 4] rfl ?_
          exact ih1 (i_1 + 1) _ (by omega) (by omega) (sm_tr hs1 (sm_w s_4 (by intro b k hb; first | rfl | exact hb | (simp only [Bool.or_eq_false_iff, Bool.and_eq_false_iff, beq_eq_false_iff_ne, ne_eq, decide_eq_false_iff_not] at hb ⊢; omega)))) (sme_tr hvi_1 s_4_e)
  refine j_lv (lv1 := [(4, .int (nI 0)), (0, .ref (ad 0)), (1, .int (nI q)), (2, .int (nI N)), (3, .ref (ad (51 + q)))]) [0, 2, 3, 4, 1] rfl ?_
  exact loop1 (N + 1) 0 _ (by omega) (by omega) sm_rf sme_rf
end
section
theorem dX7_ended_0 : decode cX7_ended 0 = .ok (.iload_n 1, 1) := by decide +kernel
theorem dX7_ended_1 : decode cX7_ended 1 = .ok (.iconst 0, 1) := by decide +kernel
theorem dX7_ended_2 : decode cX7_ended 2 = .ok (.bipush 60, 2) := by decide +kernel
theorem dX7_ended_4 : decode cX7_ended 4 = .ok (.invokestatic 60, 3) := by decide +kernel
theorem dX7_ended_7 : decode cX7_ended 7 = .ok (.ifCond .ne 10, 3) := by decide +kernel
theorem dX7_ended_17 : decode cX7_ended 17 = .ok (.aload_n 0, 1) := by decide +kernel
theorem dX7_ended_18 : decode cX7_ended 18 = .ok (.invokevirtual 191, 3) := by decide +kernel
theorem dX7_ended_21 : decode cX7_ended 21 = .ok (.aload_n 0, 1) := by decide +kernel
theorem dX7_ended_22 : decode cX7_ended 22 = .ok (.iload_n 1, 1) := by decide +kernel
theorem dX7_ended_23 : decode cX7_ended 23 = .ok (.invokevirtual 194, 3) := by decide +kernel
theorem dX7_ended_26 : decode cX7_ended 26 = .ok (.aload_n 0, 1) := by decide +kernel
theorem dX7_ended_27 : decode cX7_ended 27 = .ok (.getfield 31, 3) := by decide +kernel
theorem dX7_ended_30 : decode cX7_ended 30 = .ok (.invokevirtual 198, 3) := by decide +kernel
theorem dX7_ended_33 : decode cX7_ended 33 = .ok (.ireturn, 1) := by decide +kernel
theorem dX7_ended_10 : decode cX7_ended 10 = .ok (.aload_n 0, 1) := by decide +kernel
theorem dX7_ended_11 : decode cX7_ended 11 = .ok (.ldc 68, 2) := by decide +kernel
theorem dX7_ended_13 : decode cX7_ended 13 = .ok (.invokevirtual 69, 3) := by decide +kernel
theorem dX7_ended_16 : decode cX7_ended 16 = .ok (.ireturn, 1) := by decide +kernel
theorem dX7_fee_0 : decode cX7_fee 0 = .ok (.iload_n 1, 1) := by decide +kernel
theorem dX7_fee_1 : decode cX7_fee 1 = .ok (.iconst 0, 1) := by decide +kernel
theorem dX7_fee_2 : decode cX7_fee 2 = .ok (.bipush 60, 2) := by decide +kernel
theorem dX7_fee_4 : decode cX7_fee 4 = .ok (.invokestatic 60, 3) := by decide +kernel
theorem dX7_fee_7 : decode cX7_fee 7 = .ok (.ifCond .ne 10, 3) := by decide +kernel
theorem dX7_fee_17 : decode cX7_fee 17 = .ok (.aload_n 0, 1) := by decide +kernel
theorem dX7_fee_18 : decode cX7_fee 18 = .ok (.invokevirtual 191, 3) := by decide +kernel
theorem dX7_fee_21 : decode cX7_fee 21 = .ok (.aload_n 0, 1) := by decide +kernel
theorem dX7_fee_22 : decode cX7_fee 22 = .ok (.iload_n 1, 1) := by decide +kernel
theorem dX7_fee_23 : decode cX7_fee 23 = .ok (.invokevirtual 194, 3) := by decide +kernel
theorem dX7_fee_26 : decode cX7_fee 26 = .ok (.aload_n 0, 1) := by decide +kernel
theorem dX7_fee_27 : decode cX7_fee 27 = .ok (.getfield 31, 3) := by decide +kernel
theorem dX7_fee_30 : decode cX7_fee 30 = .ok (.getfield 246, 3) := by decide +kernel
theorem dX7_fee_33 : decode cX7_fee 33 = .ok (.aload_n 0, 1) := by decide +kernel
theorem dX7_fee_34 : decode cX7_fee 34 = .ok (.getfield 12, 3) := by decide +kernel
theorem dX7_fee_37 : decode cX7_fee 37 = .ok (.getfield 72, 3) := by decide +kernel
theorem dX7_fee_40 : decode cX7_fee 40 = .ok (.getfield 246, 3) := by decide +kernel
theorem dX7_fee_43 : decode cX7_fee 43 = .ok (.isub, 1) := by decide +kernel
theorem dX7_fee_44 : decode cX7_fee 44 = .ok (.ireturn, 1) := by decide +kernel
theorem dX7_fee_10 : decode cX7_fee 10 = .ok (.aload_n 0, 1) := by decide +kernel
theorem dX7_fee_11 : decode cX7_fee 11 = .ok (.ldc 68, 2) := by decide +kernel
theorem dX7_fee_13 : decode cX7_fee 13 = .ok (.invokevirtual 69, 3) := by decide +kernel
theorem dX7_fee_16 : decode cX7_fee 16 = .ok (.ireturn, 1) := by decide +kernel
theorem dX7_start_0 : decode cX7_start 0 = .ok (.iload_n 1, 1) := by decide +kernel
theorem dX7_start_1 : decode cX7_start 1 = .ok (.iconst 0, 1) := by decide +kernel
theorem dX7_start_2 : decode cX7_start 2 = .ok (.bipush 60, 2) := by decide +kernel
theorem dX7_start_4 : decode cX7_start 4 = .ok (.invokestatic 60, 3) := by decide +kernel
theorem dX7_start_7 : decode cX7_start 7 = .ok (.ifCond .eq 12, 3) := by decide +kernel
theorem dX7_start_10 : decode cX7_start 10 = .ok (.iload_n 2, 1) := by decide +kernel
theorem dX7_start_11 : decode cX7_start 11 = .ok (.iconst 0, 1) := by decide +kernel
theorem dX7_start_12 : decode cX7_start 12 = .ok (.iconst 1, 1) := by decide +kernel
theorem dX7_start_13 : decode cX7_start 13 = .ok (.invokestatic 60, 3) := by decide +kernel
theorem dX7_start_16 : decode cX7_start 16 = .ok (.ifCond .ne 10, 3) := by decide +kernel
theorem dX7_start_26 : decode cX7_start 26 = .ok (.iconst 0, 1) := by decide +kernel
theorem dX7_start_27 : decode cX7_start 27 = .ok (.istore_n 3, 1) := by decide +kernel
theorem dX7_start_28 : decode cX7_start 28 = .ok (.iconst (-1), 1) := by decide +kernel
theorem dX7_start_29 : decode cX7_start 29 = .ok (.istore 4, 2) := by decide +kernel
theorem dX7_start_31 : decode cX7_start 31 = .ok (.iconst 0, 1) := by decide +kernel
theorem dX7_start_32 : decode cX7_start 32 = .ok (.istore 5, 2) := by decide +kernel
theorem dX7_start_34 : decode cX7_start 34 = .ok (.iload 5, 2) := by decide +kernel
theorem dX7_start_36 : decode cX7_start 36 = .ok (.bipush 10, 2) := by decide +kernel
theorem dX7_start_38 : decode cX7_start 38 = .ok (.if_icmp .ge 51, 3) := by decide +kernel
theorem dX7_start_89 : decode cX7_start 89 = .ok (.iload_n 2, 1) := by decide +kernel
theorem dX7_start_90 : decode cX7_start 90 = .ok (.ifCond .ne 7, 3) := by decide +kernel
theorem dX7_start_97 : decode cX7_start 97 = .ok (.iload 4, 2) := by decide +kernel
theorem dX7_start_99 : decode cX7_start 99 = .ok (.ireturn, 1) := by decide +kernel
theorem dX7_start_93 : decode cX7_start 93 = .ok (.iload_n 3, 1) := by decide +kernel
theorem dX7_start_94 : decode cX7_start 94 = .ok (.goto 5, 3) := by decide +kernel
theorem dX7_start_41 : decode cX7_start 41 = .ok (.aload_n 0, 1) := by decide +kernel
theorem dX7_start_42 : decode cX7_start 42 = .ok (.invokevirtual 191, 3) := by decide +kernel
theorem dX7_start_45 : decode cX7_start 45 = .ok (.aload_n 0, 1) := by decide +kernel
theorem dX7_start_46 : decode cX7_start 46 = .ok (.getfield 31, 3) := by decide +kernel
theorem dX7_start_49 : decode cX7_start 49 = .ok (.iload 5, 2) := by decide +kernel
theorem dX7_start_51 : decode cX7_start 51 = .ok (.putfield 201, 3) := by decide +kernel
theorem dX7_start_54 : decode cX7_start 54 = .ok (.aload_n 0, 1) := by decide +kernel
theorem dX7_start_55 : decode cX7_start 55 = .ok (.iload_n 1, 1) := by decide +kernel
theorem dX7_start_56 : decode cX7_start 56 = .ok (.invokevirtual 194, 3) := by decide +kernel
theorem dX7_start_59 : decode cX7_start 59 = .ok (.aload_n 0, 1) := by decide +kernel
theorem dX7_start_60 : decode cX7_start 60 = .ok (.getfield 31, 3) := by decide +kernel
theorem dX7_start_63 : decode cX7_start 63 = .ok (.invokevirtual 182, 3) := by decide +kernel
theorem dX7_start_66 : decode cX7_start 66 = .ok (.iload 4, 2) := by decide +kernel
theorem dX7_start_68 : decode cX7_start 68 = .ok (.if_icmp .le 15, 3) := by decide +kernel
theorem dX7_start_83 : decode cX7_start 83 = .ok (.iinc 5 1, 3) := by decide +kernel
theorem dX7_start_86 : decode cX7_start 86 = .ok (.goto (-52), 3) := by decide +kernel
theorem dX7_start_71 : decode cX7_start 71 = .ok (.iload 5, 2) := by decide +kernel
theorem dX7_start_73 : decode cX7_start 73 = .ok (.istore_n 3, 1) := by decide +kernel
theorem dX7_start_74 : decode cX7_start 74 = .ok (.aload_n 0, 1) := by decide +kernel
theorem dX7_start_75 : decode cX7_start 75 = .ok (.getfield 31, 3) := by decide +kernel
theorem dX7_start_78 : decode cX7_start 78 = .ok (.invokevirtual 182, 3) := by decide +kernel
theorem dX7_start_81 : decode cX7_start 81 = .ok (.istore 4, 2) := by decide +kernel
theorem dX7_start_19 : decode cX7_start 19 = .ok (.aload_n 0, 1) := by decide +kernel
theorem dX7_start_20 : decode cX7_start 20 = .ok (.ldc 68, 2) := by decide +kernel
theorem dX7_start_22 : decode cX7_start 22 = .ok (.invokevirtual 69, 3) := by decide +kernel
theorem dX7_start_25 : decode cX7_start 25 = .ok (.ireturn, 1) := by decide +kernel
theorem dX7_pace_0 : decode cX7_pace 0 = .ok (.iload_n 1, 1) := by decide +kernel
theorem dX7_pace_1 : decode cX7_pace 1 = .ok (.iconst 0, 1) := by decide +kernel
theorem dX7_pace_2 : decode cX7_pace 2 = .ok (.bipush 60, 2) := by decide +kernel
theorem dX7_pace_4 : decode cX7_pace 4 = .ok (.invokestatic 60, 3) := by decide +kernel
theorem dX7_pace_7 : decode cX7_pace 7 = .ok (.ifCond .eq 12, 3) := by decide +kernel
theorem dX7_pace_10 : decode cX7_pace 10 = .ok (.iload_n 2, 1) := by decide +kernel
theorem dX7_pace_11 : decode cX7_pace 11 = .ok (.iconst 0, 1) := by decide +kernel
theorem dX7_pace_12 : decode cX7_pace 12 = .ok (.iconst 1, 1) := by decide +kernel
theorem dX7_pace_13 : decode cX7_pace 13 = .ok (.invokestatic 60, 3) := by decide +kernel
theorem dX7_pace_16 : decode cX7_pace 16 = .ok (.ifCond .ne 10, 3) := by decide +kernel
theorem dX7_pace_26 : decode cX7_pace 26 = .ok (.iconst 0, 1) := by decide +kernel
theorem dX7_pace_27 : decode cX7_pace 27 = .ok (.istore_n 3, 1) := by decide +kernel
theorem dX7_pace_28 : decode cX7_pace 28 = .ok (.iconst (-1), 1) := by decide +kernel
theorem dX7_pace_29 : decode cX7_pace 29 = .ok (.istore 4, 2) := by decide +kernel
theorem dX7_pace_31 : decode cX7_pace 31 = .ok (.iconst 0, 1) := by decide +kernel
theorem dX7_pace_32 : decode cX7_pace 32 = .ok (.istore 5, 2) := by decide +kernel
theorem dX7_pace_34 : decode cX7_pace 34 = .ok (.iload 5, 2) := by decide +kernel
theorem dX7_pace_36 : decode cX7_pace 36 = .ok (.bipush 10, 2) := by decide +kernel
theorem dX7_pace_38 : decode cX7_pace 38 = .ok (.if_icmp .ge 51, 3) := by decide +kernel
theorem dX7_pace_89 : decode cX7_pace 89 = .ok (.iload_n 2, 1) := by decide +kernel
theorem dX7_pace_90 : decode cX7_pace 90 = .ok (.ifCond .ne 7, 3) := by decide +kernel
theorem dX7_pace_97 : decode cX7_pace 97 = .ok (.iload 4, 2) := by decide +kernel
theorem dX7_pace_99 : decode cX7_pace 99 = .ok (.ireturn, 1) := by decide +kernel
theorem dX7_pace_93 : decode cX7_pace 93 = .ok (.iload_n 3, 1) := by decide +kernel
theorem dX7_pace_94 : decode cX7_pace 94 = .ok (.goto 5, 3) := by decide +kernel
theorem dX7_pace_41 : decode cX7_pace 41 = .ok (.aload_n 0, 1) := by decide +kernel
theorem dX7_pace_42 : decode cX7_pace 42 = .ok (.invokevirtual 191, 3) := by decide +kernel
theorem dX7_pace_45 : decode cX7_pace 45 = .ok (.aload_n 0, 1) := by decide +kernel
theorem dX7_pace_46 : decode cX7_pace 46 = .ok (.getfield 31, 3) := by decide +kernel
theorem dX7_pace_49 : decode cX7_pace 49 = .ok (.iload 5, 2) := by decide +kernel
theorem dX7_pace_51 : decode cX7_pace 51 = .ok (.putfield 188, 3) := by decide +kernel
theorem dX7_pace_54 : decode cX7_pace 54 = .ok (.aload_n 0, 1) := by decide +kernel
theorem dX7_pace_55 : decode cX7_pace 55 = .ok (.iload_n 1, 1) := by decide +kernel
theorem dX7_pace_56 : decode cX7_pace 56 = .ok (.invokevirtual 194, 3) := by decide +kernel
theorem dX7_pace_59 : decode cX7_pace 59 = .ok (.aload_n 0, 1) := by decide +kernel
theorem dX7_pace_60 : decode cX7_pace 60 = .ok (.getfield 31, 3) := by decide +kernel
theorem dX7_pace_63 : decode cX7_pace 63 = .ok (.invokevirtual 182, 3) := by decide +kernel
theorem dX7_pace_66 : decode cX7_pace 66 = .ok (.iload 4, 2) := by decide +kernel
theorem dX7_pace_68 : decode cX7_pace 68 = .ok (.if_icmp .le 15, 3) := by decide +kernel
theorem dX7_pace_83 : decode cX7_pace 83 = .ok (.iinc 5 1, 3) := by decide +kernel
theorem dX7_pace_86 : decode cX7_pace 86 = .ok (.goto (-52), 3) := by decide +kernel
theorem dX7_pace_71 : decode cX7_pace 71 = .ok (.iload 5, 2) := by decide +kernel
theorem dX7_pace_73 : decode cX7_pace 73 = .ok (.istore_n 3, 1) := by decide +kernel
theorem dX7_pace_74 : decode cX7_pace 74 = .ok (.aload_n 0, 1) := by decide +kernel
theorem dX7_pace_75 : decode cX7_pace 75 = .ok (.getfield 31, 3) := by decide +kernel
theorem dX7_pace_78 : decode cX7_pace 78 = .ok (.invokevirtual 182, 3) := by decide +kernel
theorem dX7_pace_81 : decode cX7_pace 81 = .ok (.istore 4, 2) := by decide +kernel
theorem dX7_pace_19 : decode cX7_pace 19 = .ok (.aload_n 0, 1) := by decide +kernel
theorem dX7_pace_20 : decode cX7_pace 20 = .ok (.ldc 68, 2) := by decide +kernel
theorem dX7_pace_22 : decode cX7_pace 22 = .ok (.invokevirtual 69, 3) := by decide +kernel
theorem dX7_pace_25 : decode cX7_pace 25 = .ok (.ireturn, 1) := by decide +kernel
theorem dX7_last_0 : decode cX7_last 0 = .ok (.iload_n 1, 1) := by decide +kernel
theorem dX7_last_1 : decode cX7_last 1 = .ok (.iconst 0, 1) := by decide +kernel
theorem dX7_last_2 : decode cX7_last 2 = .ok (.iconst 1, 1) := by decide +kernel
theorem dX7_last_3 : decode cX7_last 3 = .ok (.invokestatic 60, 3) := by decide +kernel
theorem dX7_last_6 : decode cX7_last 6 = .ok (.ifCond .ne 10, 3) := by decide +kernel
theorem dX7_last_16 : decode cX7_last 16 = .ok (.aload_n 0, 1) := by decide +kernel
theorem dX7_last_17 : decode cX7_last 17 = .ok (.invokevirtual 191, 3) := by decide +kernel
theorem dX7_last_20 : decode cX7_last 20 = .ok (.iconst (-1), 1) := by decide +kernel
theorem dX7_last_21 : decode cX7_last 21 = .ok (.istore_n 2, 1) := by decide +kernel
theorem dX7_last_22 : decode cX7_last 22 = .ok (.iconst 0, 1) := by decide +kernel
theorem dX7_last_23 : decode cX7_last 23 = .ok (.istore_n 3, 1) := by decide +kernel
theorem dX7_last_24 : decode cX7_last 24 = .ok (.iconst 1, 1) := by decide +kernel
theorem dX7_last_25 : decode cX7_last 25 = .ok (.istore 4, 2) := by decide +kernel
theorem dX7_last_27 : decode cX7_last 27 = .ok (.iload 4, 2) := by decide +kernel
theorem dX7_last_29 : decode cX7_last 29 = .ok (.bipush 60, 2) := by decide +kernel
theorem dX7_last_31 : decode cX7_last 31 = .ok (.if_icmp .gt 54, 3) := by decide +kernel
theorem dX7_last_85 : decode cX7_last 85 = .ok (.iload_n 2, 1) := by decide +kernel
theorem dX7_last_86 : decode cX7_last 86 = .ok (.ifCond .ge 10, 3) := by decide +kernel
theorem dX7_last_96 : decode cX7_last 96 = .ok (.iload_n 1, 1) := by decide +kernel
theorem dX7_last_97 : decode cX7_last 97 = .ok (.ifCond .ne 7, 3) := by decide +kernel
theorem dX7_last_104 : decode cX7_last 104 = .ok (.iload_n 3, 1) := by decide +kernel
theorem dX7_last_105 : decode cX7_last 105 = .ok (.ireturn, 1) := by decide +kernel
theorem dX7_last_100 : decode cX7_last 100 = .ok (.iload_n 2, 1) := by decide +kernel
theorem dX7_last_101 : decode cX7_last 101 = .ok (.goto 4, 3) := by decide +kernel
theorem dX7_last_89 : decode cX7_last 89 = .ok (.aload_n 0, 1) := by decide +kernel
theorem dX7_last_90 : decode cX7_last 90 = .ok (.ldc 197, 2) := by decide +kernel
theorem dX7_last_92 : decode cX7_last 92 = .ok (.invokevirtual 69, 3) := by decide +kernel
theorem dX7_last_95 : decode cX7_last 95 = .ok (.ireturn, 1) := by decide +kernel
theorem dX7_last_34 : decode cX7_last 34 = .ok (.aload_n 0, 1) := by decide +kernel
theorem dX7_last_35 : decode cX7_last 35 = .ok (.getfield 31, 3) := by decide +kernel
theorem dX7_last_38 : decode cX7_last 38 = .ok (.invokevirtual 198, 3) := by decide +kernel
theorem dX7_last_41 : decode cX7_last 41 = .ok (.istore 5, 2) := by decide +kernel
theorem dX7_last_43 : decode cX7_last 43 = .ok (.aload_n 0, 1) := by decide +kernel
theorem dX7_last_44 : decode cX7_last 44 = .ok (.getfield 31, 3) := by decide +kernel
theorem dX7_last_47 : decode cX7_last 47 = .ok (.iconst 0, 1) := by decide +kernel
theorem dX7_last_48 : decode cX7_last 48 = .ok (.invokevirtual 178, 3) := by decide +kernel
theorem dX7_last_51 : decode cX7_last 51 = .ok (.aload_n 0, 1) := by decide +kernel
theorem dX7_last_52 : decode cX7_last 52 = .ok (.getfield 31, 3) := by decide +kernel
theorem dX7_last_55 : decode cX7_last 55 = .ok (.invokevirtual 198, 3) := by decide +kernel
theorem dX7_last_58 : decode cX7_last 58 = .ok (.iload 5, 2) := by decide +kernel
theorem dX7_last_60 : decode cX7_last 60 = .ok (.iconst (-1), 1) := by decide +kernel
theorem dX7_last_61 : decode cX7_last 61 = .ok (.ixor, 1) := by decide +kernel
theorem dX7_last_62 : decode cX7_last 62 = .ok (.iand, 1) := by decide +kernel
theorem dX7_last_63 : decode cX7_last 63 = .ok (.istore 6, 2) := by decide +kernel
theorem dX7_last_65 : decode cX7_last 65 = .ok (.iload 6, 2) := by decide +kernel
theorem dX7_last_67 : decode cX7_last 67 = .ok (.ifCond .eq 12, 3) := by decide +kernel
theorem dX7_last_79 : decode cX7_last 79 = .ok (.iinc 4 1, 3) := by decide +kernel
theorem dX7_last_82 : decode cX7_last 82 = .ok (.goto (-55), 3) := by decide +kernel
theorem dX7_last_70 : decode cX7_last 70 = .ok (.iload 6, 2) := by decide +kernel
theorem dX7_last_72 : decode cX7_last 72 = .ok (.invokestatic 237, 3) := by decide +kernel
theorem dX7_last_75 : decode cX7_last 75 = .ok (.istore_n 2, 1) := by decide +kernel
theorem dX7_last_76 : decode cX7_last 76 = .ok (.iload 4, 2) := by decide +kernel
theorem dX7_last_78 : decode cX7_last 78 = .ok (.istore_n 3, 1) := by decide +kernel
theorem dX7_last_9 : decode cX7_last 9 = .ok (.aload_n 0, 1) := by decide +kernel
theorem dX7_last_10 : decode cX7_last 10 = .ok (.ldc 68, 2) := by decide +kernel
theorem dX7_last_12 : decode cX7_last 12 = .ok (.invokevirtual 69, 3) := by decide +kernel
theorem dX7_last_15 : decode cX7_last 15 = .ok (.ireturn, 1) := by decide +kernel
theorem dX7_then_0 : decode cX7_then 0 = .ok (.iload_n 1, 1) := by decide +kernel
theorem dX7_then_1 : decode cX7_then 1 = .ok (.iconst 0, 1) := by decide +kernel
theorem dX7_then_2 : decode cX7_then 2 = .ok (.bipush 60, 2) := by decide +kernel
theorem dX7_then_4 : decode cX7_then 4 = .ok (.invokestatic 60, 3) := by decide +kernel
theorem dX7_then_7 : decode cX7_then 7 = .ok (.ifCond .eq 20, 3) := by decide +kernel
theorem dX7_then_10 : decode cX7_then 10 = .ok (.aload_n 0, 1) := by decide +kernel
theorem dX7_then_11 : decode cX7_then 11 = .ok (.iload_n 2, 1) := by decide +kernel
theorem dX7_then_12 : decode cX7_then 12 = .ok (.invokevirtual 117, 3) := by decide +kernel
theorem dX7_then_15 : decode cX7_then 15 = .ok (.ifCond .eq 12, 3) := by decide +kernel
theorem dX7_then_18 : decode cX7_then 18 = .ok (.iload_n 3, 1) := by decide +kernel
theorem dX7_then_19 : decode cX7_then 19 = .ok (.iconst 0, 1) := by decide +kernel
theorem dX7_then_20 : decode cX7_then 20 = .ok (.iconst 2, 1) := by decide +kernel
theorem dX7_then_21 : decode cX7_then 21 = .ok (.invokestatic 60, 3) := by decide +kernel
theorem dX7_then_24 : decode cX7_then 24 = .ok (.ifCond .ne 10, 3) := by decide +kernel
theorem dX7_then_34 : decode cX7_then 34 = .ok (.aload_n 0, 1) := by decide +kernel
theorem dX7_then_35 : decode cX7_then 35 = .ok (.invokevirtual 191, 3) := by decide +kernel
theorem dX7_then_38 : decode cX7_then 38 = .ok (.aload_n 0, 1) := by decide +kernel
theorem dX7_then_39 : decode cX7_then 39 = .ok (.iload_n 1, 1) := by decide +kernel
theorem dX7_then_40 : decode cX7_then 40 = .ok (.invokevirtual 194, 3) := by decide +kernel
theorem dX7_then_43 : decode cX7_then 43 = .ok (.aload_n 0, 1) := by decide +kernel
theorem dX7_then_44 : decode cX7_then 44 = .ok (.getfield 31, 3) := by decide +kernel
theorem dX7_then_47 : decode cX7_then 47 = .ok (.getfield 91, 3) := by decide +kernel
theorem dX7_then_50 : decode cX7_then 50 = .ok (.iload_n 2, 1) := by decide +kernel
theorem dX7_then_51 : decode cX7_then 51 = .ok (.aaload, 1) := by decide +kernel
theorem dX7_then_52 : decode cX7_then 52 = .ok (.astore 4, 2) := by decide +kernel
theorem dX7_then_54 : decode cX7_then 54 = .ok (.iload_n 3, 1) := by decide +kernel
theorem dX7_then_55 : decode cX7_then 55 = .ok (.lookupswitch 45 #[(0, 25), (1, 31)], 25) := by decide +kernel
theorem dX7_then_80 : decode cX7_then 80 = .ok (.aload 4, 2) := by decide +kernel
theorem dX7_then_82 : decode cX7_then 82 = .ok (.getfield 104, 3) := by decide +kernel
theorem dX7_then_85 : decode cX7_then 85 = .ok (.ireturn, 1) := by decide +kernel
theorem dX7_then_86 : decode cX7_then 86 = .ok (.aload 4, 2) := by decide +kernel
theorem dX7_then_88 : decode cX7_then 88 = .ok (.getfield 110, 3) := by decide +kernel
theorem dX7_then_91 : decode cX7_then 91 = .ok (.ifCond .eq 7, 3) := by decide +kernel
theorem dX7_then_98 : decode cX7_then 98 = .ok (.iconst 0, 1) := by decide +kernel
theorem dX7_then_99 : decode cX7_then 99 = .ok (.ireturn, 1) := by decide +kernel
theorem dX7_then_94 : decode cX7_then 94 = .ok (.iconst 1, 1) := by decide +kernel
theorem dX7_then_95 : decode cX7_then 95 = .ok (.goto 4, 3) := by decide +kernel
theorem dX7_then_100 : decode cX7_then 100 = .ok (.aload 4, 2) := by decide +kernel
theorem dX7_then_102 : decode cX7_then 102 = .ok (.getfield 114, 3) := by decide +kernel
theorem dX7_then_105 : decode cX7_then 105 = .ok (.ireturn, 1) := by decide +kernel
theorem dX7_then_27 : decode cX7_then 27 = .ok (.aload_n 0, 1) := by decide +kernel
theorem dX7_then_28 : decode cX7_then 28 = .ok (.ldc 68, 2) := by decide +kernel
theorem dX7_then_30 : decode cX7_then 30 = .ok (.invokevirtual 69, 3) := by decide +kernel
theorem dX7_then_33 : decode cX7_then 33 = .ok (.ireturn, 1) := by decide +kernel
theorem dX7_when_0 : decode cX7_when 0 = .ok (.aload_n 0, 1) := by decide +kernel
theorem dX7_when_1 : decode cX7_when 1 = .ok (.iload_n 1, 1) := by decide +kernel
theorem dX7_when_2 : decode cX7_when 2 = .ok (.invokevirtual 117, 3) := by decide +kernel
theorem dX7_when_5 : decode cX7_when 5 = .ok (.ifCond .ne 10, 3) := by decide +kernel
theorem dX7_when_15 : decode cX7_when 15 = .ok (.aload_n 0, 1) := by decide +kernel
theorem dX7_when_16 : decode cX7_when 16 = .ok (.invokevirtual 191, 3) := by decide +kernel
theorem dX7_when_19 : decode cX7_when 19 = .ok (.iconst 0, 1) := by decide +kernel
theorem dX7_when_20 : decode cX7_when 20 = .ok (.istore_n 2, 1) := by decide +kernel
theorem dX7_when_21 : decode cX7_when 21 = .ok (.iload_n 2, 1) := by decide +kernel
theorem dX7_when_22 : decode cX7_when 22 = .ok (.bipush 60, 2) := by decide +kernel
theorem dX7_when_24 : decode cX7_when 24 = .ok (.if_icmp .gt 34, 3) := by decide +kernel
theorem dX7_when_58 : decode cX7_when 58 = .ok (.aload_n 0, 1) := by decide +kernel
theorem dX7_when_59 : decode cX7_when 59 = .ok (.ldc 197, 2) := by decide +kernel
theorem dX7_when_61 : decode cX7_when 61 = .ok (.invokevirtual 69, 3) := by decide +kernel
theorem dX7_when_64 : decode cX7_when 64 = .ok (.ireturn, 1) := by decide +kernel
theorem dX7_when_27 : decode cX7_when 27 = .ok (.aload_n 0, 1) := by decide +kernel
theorem dX7_when_28 : decode cX7_when 28 = .ok (.getfield 31, 3) := by decide +kernel
theorem dX7_when_31 : decode cX7_when 31 = .ok (.getfield 91, 3) := by decide +kernel
theorem dX7_when_34 : decode cX7_when 34 = .ok (.iload_n 1, 1) := by decide +kernel
theorem dX7_when_35 : decode cX7_when 35 = .ok (.aaload, 1) := by decide +kernel
theorem dX7_when_36 : decode cX7_when 36 = .ok (.getfield 110, 3) := by decide +kernel
theorem dX7_when_39 : decode cX7_when 39 = .ok (.ifCond .eq 5, 3) := by decide +kernel
theorem dX7_when_44 : decode cX7_when 44 = .ok (.aload_n 0, 1) := by decide +kernel
theorem dX7_when_45 : decode cX7_when 45 = .ok (.getfield 31, 3) := by decide +kernel
theorem dX7_when_48 : decode cX7_when 48 = .ok (.iconst 0, 1) := by decide +kernel
theorem dX7_when_49 : decode cX7_when 49 = .ok (.invokevirtual 178, 3) := by decide +kernel
theorem dX7_when_52 : decode cX7_when 52 = .ok (.iinc 2 1, 3) := by decide +kernel
theorem dX7_when_55 : decode cX7_when 55 = .ok (.goto (-34), 3) := by decide +kernel
theorem dX7_when_42 : decode cX7_when 42 = .ok (.iload_n 2, 1) := by decide +kernel
theorem dX7_when_43 : decode cX7_when 43 = .ok (.ireturn, 1) := by decide +kernel
theorem dX7_when_8 : decode cX7_when 8 = .ok (.aload_n 0, 1) := by decide +kernel
theorem dX7_when_9 : decode cX7_when 9 = .ok (.ldc 68, 2) := by decide +kernel
theorem dX7_when_11 : decode cX7_when 11 = .ok (.invokevirtual 69, 3) := by decide +kernel
theorem dX7_when_14 : decode cX7_when 14 = .ok (.ireturn, 1) := by decide +kernel
theorem dX7_off_0 : decode cX7_off 0 = .ok (.iload_n 1, 1) := by decide +kernel
theorem dX7_off_1 : decode cX7_off 1 = .ok (.iconst 0, 1) := by decide +kernel
theorem dX7_off_2 : decode cX7_off 2 = .ok (.bipush 60, 2) := by decide +kernel
theorem dX7_off_4 : decode cX7_off 4 = .ok (.invokestatic 60, 3) := by decide +kernel
theorem dX7_off_7 : decode cX7_off 7 = .ok (.ifCond .ne 10, 3) := by decide +kernel
theorem dX7_off_17 : decode cX7_off 17 = .ok (.aload_n 0, 1) := by decide +kernel
theorem dX7_off_18 : decode cX7_off 18 = .ok (.invokevirtual 191, 3) := by decide +kernel
theorem dX7_off_21 : decode cX7_off 21 = .ok (.aload_n 0, 1) := by decide +kernel
theorem dX7_off_22 : decode cX7_off 22 = .ok (.iload_n 1, 1) := by decide +kernel
theorem dX7_off_23 : decode cX7_off 23 = .ok (.invokevirtual 219, 3) := by decide +kernel
theorem dX7_off_26 : decode cX7_off 26 = .ok (.aload_n 0, 1) := by decide +kernel
theorem dX7_off_27 : decode cX7_off 27 = .ok (.getfield 31, 3) := by decide +kernel
theorem dX7_off_30 : decode cX7_off 30 = .ok (.getfield 222, 3) := by decide +kernel
theorem dX7_off_33 : decode cX7_off 33 = .ok (.istore_n 2, 1) := by decide +kernel
theorem dX7_off_34 : decode cX7_off 34 = .ok (.aload_n 0, 1) := by decide +kernel
theorem dX7_off_35 : decode cX7_off 35 = .ok (.invokevirtual 191, 3) := by decide +kernel
theorem dX7_off_38 : decode cX7_off 38 = .ok (.iload_n 1, 1) := by decide +kernel
theorem dX7_off_39 : decode cX7_off 39 = .ok (.ifCond .le 18, 3) := by decide +kernel
theorem dX7_off_57 : decode cX7_off 57 = .ok (.aload_n 0, 1) := by decide +kernel
theorem dX7_off_58 : decode cX7_off 58 = .ok (.getfield 31, 3) := by decide +kernel
theorem dX7_off_61 : decode cX7_off 61 = .ok (.getfield 222, 3) := by decide +kernel
theorem dX7_off_64 : decode cX7_off 64 = .ok (.iload_n 2, 1) := by decide +kernel
theorem dX7_off_65 : decode cX7_off 65 = .ok (.isub, 1) := by decide +kernel
theorem dX7_off_66 : decode cX7_off 66 = .ok (.ireturn, 1) := by decide +kernel
theorem dX7_off_42 : decode cX7_off 42 = .ok (.aload_n 0, 1) := by decide +kernel
theorem dX7_off_43 : decode cX7_off 43 = .ok (.getfield 31, 3) := by decide +kernel
theorem dX7_off_46 : decode cX7_off 46 = .ok (.iconst 1, 1) := by decide +kernel
theorem dX7_off_47 : decode cX7_off 47 = .ok (.invokevirtual 240, 3) := by decide +kernel
theorem dX7_off_50 : decode cX7_off 50 = .ok (.aload_n 0, 1) := by decide +kernel
theorem dX7_off_51 : decode cX7_off 51 = .ok (.iload_n 1, 1) := by decide +kernel
theorem dX7_off_52 : decode cX7_off 52 = .ok (.iconst 1, 1) := by decide +kernel
theorem dX7_off_53 : decode cX7_off 53 = .ok (.isub, 1) := by decide +kernel
theorem dX7_off_54 : decode cX7_off 54 = .ok (.invokevirtual 219, 3) := by decide +kernel
theorem dX7_off_10 : decode cX7_off 10 = .ok (.aload_n 0, 1) := by decide +kernel
theorem dX7_off_11 : decode cX7_off 11 = .ok (.ldc 68, 2) := by decide +kernel
theorem dX7_off_13 : decode cX7_off 13 = .ok (.invokevirtual 69, 3) := by decide +kernel
theorem dX7_off_16 : decode cX7_off 16 = .ok (.ireturn, 1) := by decide +kernel
set_option maxRecDepth 100000 in
set_option maxHeartbeats 4000000 in
theorem g_X7_ended (l : Launch) (D : va_G) (y : wY) (ad : Nat → Nat) (M : Mem) (n : Nat) (hn : n ≤ 9) (hm : M 12 3 = nI n) (hB : ∀ q, q < 9 → BoolOK (M (14 + q) 6)) (z2 z7 : Nat) (hT2 : TextOK M 2 z2) (hT7 : TextOK M 7 z7) (nn : Int32) : MI l D y ad yX7_ended (Cond.code yX7_ended cX7_ended 2 (some .int)) 9 M [.ref (ad 0), .int nn] (fun _ M' => sm (fun b _ => b == 6 || b == 11 || b == 78 || (decide (49 ≤ b) && decide (b ≤ 59))) M M') := by
  refine MI_of (by decide) (Nat.le_of_ble_eq_true rfl) ?_
  intro p e s m args below meth c X hr hlocks
  refine j_lv (lv1 := [(0, .ref (ad 0)), (1, .int nn)]) [0, 1] rfl ?_
  refine j_iload_n X 1 rfl rfl dX7_ended_0 ?_
  refine j_iconst X (v := 0) (by decide) dX7_ended_1 ?_
  refine j_bipush X (v := 60) (by decide) dX7_ended_2 ?_
  refine j_callSI X (nn := 3) (As := [.int nn, .int 0, .int 60]) (st := []) aw_110 (g_X7_isWithin l D y ad M nn 0 60 0 60 (by decide) (by decide)) aw_109 aw_111 aw_2 (by decide +kernel) ⟨by decide, by decide⟩ rfl (Nat.le_of_ble_eq_true rfl) ⟨by decide, by decide⟩ dX7_ended_4 ?_
  rintro r_ M1_ (⟨rfl, rfl, h_1⟩ | ⟨rfl, rfl, h_1⟩)
  · refine j_if_ne X 17 (by decide) dX7_ended_7 (fun c_2 => ?_) (fun c_2 => False.elim (by revert c_2; decide))
    obtain ⟨N, hN, rfl⟩ := nI_oft (x := nn) (n := 60) (by omega) (by omega) (by decide)
    refine j_aload_n X 0 rfl rfl dX7_ended_17 ?_
    refine j_callVV X (nn := 0) (As := []) (st := []) (ci := 7) (by decide) (wE_7 _ rfl) rfl aw_534 aw_535 (g_think l D y ad M n (by omega) hm hB) aw_533 aw_536 aw_2 (by decide +kernel) ⟨by decide, by decide⟩ rfl (Nat.le_of_ble_eq_true rfl) ⟨by decide, by decide⟩ dX7_ended_18 ?_
    rintro M_4 ⟨s_3, s_3_g, s_3_b⟩
    refine j_aload_n X 0 rfl rfl dX7_ended_21 ?_
    refine j_iload_n X 1 rfl rfl dX7_ended_22 ?_
    refine j_callVV X (nn := 1) (As := [.int (nI N)]) (st := []) (ci := 7) (by decide) (wE_7 _ rfl) rfl aw_545 aw_546 (g_thinkDays l D y ad M_4 n (by omega) ((s_3_g 3 (by decide) (by decide)).trans hm) z2 z7 (TextOK_keep (P := (fun b _ => b == 6 || b == 11 || b == 78 || (decide (49 ≤ b) && decide (b ≤ 59)))) (sm_tr sm_rf (sm_w s_3 (by intro b k hb; first | rfl | exact hb | (simp only [Bool.or_eq_false_iff, Bool.and_eq_false_iff, beq_eq_false_iff_ne, ne_eq, decide_eq_false_iff_not] at hb ⊢; omega)))) (fun _ => rfl) (fun _ => rfl) (fun _ => rfl) (fun _ => rfl) hT2) (TextOK_keep (P := (fun b _ => b == 6 || b == 11 || b == 78 || (decide (49 ≤ b) && decide (b ≤ 59)))) (sm_tr sm_rf (sm_w s_3 (by intro b k hb; first | rfl | exact hb | (simp only [Bool.or_eq_false_iff, Bool.and_eq_false_iff, beq_eq_false_iff_ne, ne_eq, decide_eq_false_iff_not] at hb ⊢; omega)))) (fun _ => rfl) (fun _ => rfl) (fun _ => rfl) (fun _ => rfl) hT7) N (by omega)) aw_544 aw_547 aw_2 (by decide +kernel) ⟨by decide, by decide⟩ rfl (Nat.le_of_ble_eq_true rfl) ⟨by decide, by decide⟩ dX7_ended_23 ?_
    rintro M_6 ⟨s_5, s_5_e⟩
    refine j_aload_n X 0 rfl rfl dX7_ended_26 ?_
    refine j_get X (by decide) (wE_7 _ rfl) rfl awF7 2 (by decide) aw_21 rfl (v := .ref (ad 49)) rfl dX7_ended_27 ?_
    refine j_callVNI X (nn := 0) (As := []) (st := []) (ci := 0) (by decide) (wE_0 _ rfl) rfl aw_466 aw_467 (g_setEnded_49 l D y ad M_6 n (by omega) ((s_5 49 3 rfl).trans ((s_3_g 3 (by decide) (by decide)).trans hm))) (List.mem_of_getElem? (i := 35) rfl) aw_468 aw_20 (by decide +kernel) ⟨by decide, by decide⟩ rfl (Nat.le_of_ble_eq_true rfl) ⟨by decide, by decide⟩ dX7_ended_30 ?_
    rintro r_ M1_ ⟨rfl, rfl⟩
    exact j_iret X hr hlocks dX7_ended_33 (sm_tr (sm_tr sm_rf (sm_w s_3 (by intro b k hb; first | rfl | exact hb | (simp only [Bool.or_eq_false_iff, Bool.and_eq_false_iff, beq_eq_false_iff_ne, ne_eq, decide_eq_false_iff_not] at hb ⊢; omega)))) (sm_w s_5 (by intro b k hb; first | rfl | exact hb | (simp only [Bool.or_eq_false_iff, Bool.and_eq_false_iff, beq_eq_false_iff_ne, ne_eq, decide_eq_false_iff_not] at hb ⊢; omega))))
  · refine j_if_ne X 17 (by decide) dX7_ended_7 (fun c_7 => False.elim (by revert c_7; decide)) (fun c_7 => ?_)
    refine j_aload_n X 0 rfl rfl dX7_ended_10 ?_
    refine j_ldc X (v := (-1000000001)) aw_108 dX7_ended_11 ?_
    refine j_callVI X (nn := 1) (As := [.int (-1000000001)]) (st := []) (ci := 7) (by decide) (wE_7 _ rfl) rfl aw_117 aw_118 (g_refuse l D y ad M (-1000000001) 1 (by decide) (by decide)) aw_116 aw_119 aw_2 (by decide +kernel) ⟨by decide, by decide⟩ rfl (Nat.le_of_ble_eq_true rfl) ⟨by decide, by decide⟩ dX7_ended_13 ?_
    rintro r_ M_9 ⟨rfl, s_8⟩
    exact j_iret X hr hlocks dX7_ended_16 (sm_tr sm_rf (sm_w s_8 (by intro b k hb; first | rfl | exact hb | (simp only [Bool.or_eq_false_iff, Bool.and_eq_false_iff, beq_eq_false_iff_ne, ne_eq, decide_eq_false_iff_not] at hb ⊢; omega))))
set_option maxRecDepth 100000 in
set_option maxHeartbeats 4000000 in
theorem g_X7_fee (l : Launch) (D : va_G) (y : wY) (ad : Nat → Nat) (M : Mem) (n : Nat) (hn : n ≤ 9) (hm : M 12 3 = nI n) (hB : ∀ q, q < 9 → BoolOK (M (14 + q) 6)) (z2 z7 : Nat) (hT2 : TextOK M 2 z2) (hT7 : TextOK M 7 z7) (nn : Int32) : MI l D y ad yX7_fee (Cond.code yX7_fee cX7_fee 2 (some .int)) 9 M [.ref (ad 0), .int nn] (fun _ M' => sm (fun b _ => b == 6 || b == 11 || b == 78 || (decide (49 ≤ b) && decide (b ≤ 59))) M M') := by
  refine MI_of (by decide) (Nat.le_of_ble_eq_true rfl) ?_
  intro p e s m args below meth c X hr hlocks
  refine j_lv (lv1 := [(0, .ref (ad 0)), (1, .int nn)]) [0, 1] rfl ?_
  refine j_iload_n X 1 rfl rfl dX7_fee_0 ?_
  refine j_iconst X (v := 0) (by decide) dX7_fee_1 ?_
  refine j_bipush X (v := 60) (by decide) dX7_fee_2 ?_
  refine j_callSI X (nn := 3) (As := [.int nn, .int 0, .int 60]) (st := []) aw_110 (g_X7_isWithin l D y ad M nn 0 60 0 60 (by decide) (by decide)) aw_109 aw_111 aw_2 (by decide +kernel) ⟨by decide, by decide⟩ rfl (Nat.le_of_ble_eq_true rfl) ⟨by decide, by decide⟩ dX7_fee_4 ?_
  rintro r_ M1_ (⟨rfl, rfl, h_1⟩ | ⟨rfl, rfl, h_1⟩)
  · refine j_if_ne X 17 (by decide) dX7_fee_7 (fun c_2 => ?_) (fun c_2 => False.elim (by revert c_2; decide))
    obtain ⟨N, hN, rfl⟩ := nI_oft (x := nn) (n := 60) (by omega) (by omega) (by decide)
    refine j_aload_n X 0 rfl rfl dX7_fee_17 ?_
    refine j_callVV X (nn := 0) (As := []) (st := []) (ci := 7) (by decide) (wE_7 _ rfl) rfl aw_534 aw_535 (g_think l D y ad M n (by omega) hm hB) aw_533 aw_536 aw_2 (by decide +kernel) ⟨by decide, by decide⟩ rfl (Nat.le_of_ble_eq_true rfl) ⟨by decide, by decide⟩ dX7_fee_18 ?_
    rintro M_4 ⟨s_3, s_3_g, s_3_b⟩
    refine j_aload_n X 0 rfl rfl dX7_fee_21 ?_
    refine j_iload_n X 1 rfl rfl dX7_fee_22 ?_
    refine j_callVV X (nn := 1) (As := [.int (nI N)]) (st := []) (ci := 7) (by decide) (wE_7 _ rfl) rfl aw_545 aw_546 (g_thinkDays l D y ad M_4 n (by omega) ((s_3_g 3 (by decide) (by decide)).trans hm) z2 z7 (TextOK_keep (P := (fun b _ => b == 6 || b == 11 || b == 78 || (decide (49 ≤ b) && decide (b ≤ 59)))) (sm_tr sm_rf (sm_w s_3 (by intro b k hb; first | rfl | exact hb | (simp only [Bool.or_eq_false_iff, Bool.and_eq_false_iff, beq_eq_false_iff_ne, ne_eq, decide_eq_false_iff_not] at hb ⊢; omega)))) (fun _ => rfl) (fun _ => rfl) (fun _ => rfl) (fun _ => rfl) hT2) (TextOK_keep (P := (fun b _ => b == 6 || b == 11 || b == 78 || (decide (49 ≤ b) && decide (b ≤ 59)))) (sm_tr sm_rf (sm_w s_3 (by intro b k hb; first | rfl | exact hb | (simp only [Bool.or_eq_false_iff, Bool.and_eq_false_iff, beq_eq_false_iff_ne, ne_eq, decide_eq_false_iff_not] at hb ⊢; omega)))) (fun _ => rfl) (fun _ => rfl) (fun _ => rfl) (fun _ => rfl) hT7) N (by omega)) aw_544 aw_547 aw_2 (by decide +kernel) ⟨by decide, by decide⟩ rfl (Nat.le_of_ble_eq_true rfl) ⟨by decide, by decide⟩ dX7_fee_23 ?_
    rintro M_6 ⟨s_5, s_5_e⟩
    refine j_aload_n X 0 rfl rfl dX7_fee_26 ?_
    refine j_get X (by decide) (wE_7 _ rfl) rfl awF7 2 (by decide) aw_21 rfl (v := .ref (ad 49)) rfl dX7_fee_27 ?_
    refine j_getN X (by decide) (wE_0 _ rfl) rfl awF0 8 (by decide) (List.mem_of_getElem? (i := 20) rfl) rfl (v := .int (M_6 49 8)) rfl dX7_fee_30 ?_
    refine j_aload_n X 0 rfl rfl dX7_fee_33 ?_
    refine j_get X (by decide) (wE_7 _ rfl) rfl awF7 0 (by decide) aw_16 rfl (v := .ref (ad 1)) rfl dX7_fee_34 ?_
    refine j_getN X (by decide) (wE_6 _ rfl) rfl awF6 2 (by decide) (List.mem_of_getElem? (i := 23) rfl) rfl (v := .ref (ad 12)) rfl dX7_fee_37 ?_
    refine j_getN X (by decide) (wE_0 _ rfl) rfl awF0 8 (by decide) (List.mem_of_getElem? (i := 20) rfl) rfl (v := .int (M_6 12 8)) rfl dX7_fee_40 ?_
    refine j_isub X dX7_fee_43 ?_
    exact j_iret X hr hlocks dX7_fee_44 (sm_tr (sm_tr sm_rf (sm_w s_3 (by intro b k hb; first | rfl | exact hb | (simp only [Bool.or_eq_false_iff, Bool.and_eq_false_iff, beq_eq_false_iff_ne, ne_eq, decide_eq_false_iff_not] at hb ⊢; omega)))) (sm_w s_5 (by intro b k hb; first | rfl | exact hb | (simp only [Bool.or_eq_false_iff, Bool.and_eq_false_iff, beq_eq_false_iff_ne, ne_eq, decide_eq_false_iff_not] at hb ⊢; omega))))
  · refine j_if_ne X 17 (by decide) dX7_fee_7 (fun c_7 => False.elim (by revert c_7; decide)) (fun c_7 => ?_)
    refine j_aload_n X 0 rfl rfl dX7_fee_10 ?_
    refine j_ldc X (v := (-1000000001)) aw_108 dX7_fee_11 ?_
    refine j_callVI X (nn := 1) (As := [.int (-1000000001)]) (st := []) (ci := 7) (by decide) (wE_7 _ rfl) rfl aw_117 aw_118 (g_refuse l D y ad M (-1000000001) 1 (by decide) (by decide)) aw_116 aw_119 aw_2 (by decide +kernel) ⟨by decide, by decide⟩ rfl (Nat.le_of_ble_eq_true rfl) ⟨by decide, by decide⟩ dX7_fee_13 ?_
    rintro r_ M_9 ⟨rfl, s_8⟩
    exact j_iret X hr hlocks dX7_fee_16 (sm_tr sm_rf (sm_w s_8 (by intro b k hb; first | rfl | exact hb | (simp only [Bool.or_eq_false_iff, Bool.and_eq_false_iff, beq_eq_false_iff_ne, ne_eq, decide_eq_false_iff_not] at hb ⊢; omega))))
set_option maxRecDepth 100000 in
set_option maxHeartbeats 4000000 in
theorem g_X7_start (l : Launch) (D : va_G) (y : wY) (ad : Nat → Nat) (M : Mem) (n : Nat) (hn : n ≤ 9) (hm : M 12 3 = nI n) (hB : ∀ q, q < 9 → BoolOK (M (14 + q) 6)) (z2 z7 : Nat) (hT2 : TextOK M 2 z2) (hT7 : TextOK M 7 z7) (nn what : Int32) : MI l D y ad yX7_start (Cond.code yX7_start cX7_start 6 (some .int)) 9 M [.ref (ad 0), .int nn, .int what] (fun _ M' => sm (fun b _ => b == 6 || b == 11 || b == 78 || (decide (49 ≤ b) && decide (b ≤ 59))) M M') := by
  refine MI_of (by decide) (Nat.le_of_ble_eq_true rfl) ?_
  intro p e s m args below meth c X hr hlocks
  refine j_lv (lv1 := [(0, .ref (ad 0)), (1, .int nn), (2, .int what)]) [0, 1, 2] rfl ?_
  refine j_iload_n X 1 rfl rfl dX7_start_0 ?_
  refine j_iconst X (v := 0) (by decide) dX7_start_1 ?_
  refine j_bipush X (v := 60) (by decide) dX7_start_2 ?_
  refine j_callSI X (nn := 3) (As := [.int nn, .int 0, .int 60]) (st := []) aw_110 (g_X7_isWithin l D y ad M nn 0 60 0 60 (by decide) (by decide)) aw_109 aw_111 aw_2 (by decide +kernel) ⟨by decide, by decide⟩ rfl (Nat.le_of_ble_eq_true rfl) ⟨by decide, by decide⟩ dX7_start_4 ?_
  rintro r_ M1_ (⟨rfl, rfl, h_1⟩ | ⟨rfl, rfl, h_1⟩)
  · refine j_if_eq X 19 (by decide) dX7_start_7 (fun c_2 => False.elim (by revert c_2; decide)) (fun c_2 => ?_)
    refine j_iload_n X 2 rfl rfl dX7_start_10 ?_
    refine j_iconst X (v := 0) (by decide) dX7_start_11 ?_
    refine j_iconst X (v := 1) (by decide) dX7_start_12 ?_
    refine j_callSI X (nn := 3) (As := [.int what, .int 0, .int 1]) (st := []) aw_110 (g_X7_isWithin l D y ad M what 0 1 0 1 (by decide) (by decide)) aw_109 aw_111 aw_2 (by decide +kernel) ⟨by decide, by decide⟩ rfl (Nat.le_of_ble_eq_true rfl) ⟨by decide, by decide⟩ dX7_start_13 ?_
    rintro r_ M1_ (⟨rfl, rfl, h_3⟩ | ⟨rfl, rfl, h_3⟩)
    · refine j_if_ne X 26 (by decide) dX7_start_16 (fun c_4 => ?_) (fun c_4 => False.elim (by revert c_4; decide))
      obtain ⟨N, hN, rfl⟩ := nI_oft (x := nn) (n := 60) (by omega) (by omega) (by decide)
      refine j_iconst X (v := 0) (by decide) dX7_start_26 ?_
      refine j_istore_n X [(3, .int 0), (0, .ref (ad 0)), (1, .int (nI N)), (2, .int what)] rfl (by decide) rfl dX7_start_27 ?_
      refine j_iconst X (v := (-1)) (by decide) dX7_start_28 ?_
      refine j_istore X [(4, .int (-1)), (3, .int 0), (0, .ref (ad 0)), (1, .int (nI N)), (2, .int what)] (by decide) rfl dX7_start_29 ?_
      refine j_iconst X (v := 0) (by decide) dX7_start_31 ?_
      refine j_istore X [(5, .int 0), (4, .int (-1)), (3, .int 0), (0, .ref (ad 0)), (1, .int (nI N)), (2, .int what)] (by decide) rfl dX7_start_32 ?_
      have loop5 : ∀ (n_5 i_5 : Nat) (M5 : Mem) (v3_i_5 : Int32) (v4_i_5 : Int32), i_5 ≤ 10 → 10 - i_5 < n_5 → sm (fun b _ => b == 6 || b == 11 || b == 78 || (decide (49 ≤ b) && decide (b ≤ 59))) M M5 → J p l e (rmN 9) s m args below meth c 0 0 (QI (fun _ M' => sm (fun b _ => b == 6 || b == 11 || b == 78 || (decide (49 ≤ b) && decide (b ≤ 59))) M M') D y ad M s args below) D y ad (va_A (PL y ad M) s.heap.size) 6 M5 34 [(5, .int (nI i_5)), (0, .ref (ad 0)), (1, .int (nI N)), (2, .int what), (3, .int v3_i_5), (4, .int v4_i_5)] [] := by
        intro n_5
        induction n_5 with
        | zero => intro i_5 M5 v3_i_5 v4_i_5 h1 h2; exact absurd h2 (by omega)
        | succ n_5 ih5 =>
          intro i_5 M5 v3_i_5 v4_i_5 h1i_5 h2i_5 hs5
          refine j_iload X 0 rfl dX7_start_34 ?_
          refine j_bipush X (v := 10) (by decide) dX7_start_36 ?_
          refine j_icmp_ge X 89 (by decide) dX7_start_38 (fun c_6 => ?_) (fun c_6 => ?_)
          · have c_6 := (nI_leI (by omega) (by omega)).mp (show nI (10) ≤ nI i_5 from c_6)
            refine j_iload_n X 3 rfl rfl dX7_start_89 ?_
            refine j_if_ne X 97 (by decide) dX7_start_90 (fun c_7 => ?_) (fun c_7 => ?_)
            · have qc_7 := ti_ne (n := 0) (by decide) c_7
              refine j_iload X 5 rfl dX7_start_97 ?_
              exact j_iret X hr hlocks dX7_start_99 (sm_tr sm_rf (sm_w hs5 (by intro b k hb; first | rfl | exact hb | (simp only [Bool.or_eq_false_iff, Bool.and_eq_false_iff, beq_eq_false_iff_ne, ne_eq, decide_eq_false_iff_not] at hb ⊢; omega))))
            · have qc_7 := ti_eq (n := 0) (by decide) c_7
              refine j_iload_n X 4 rfl rfl dX7_start_93 ?_
              refine j_goto X 99 (by decide) dX7_start_94 ?_
              exact j_iret X hr hlocks dX7_start_99 (sm_tr sm_rf (sm_w hs5 (by intro b k hb; first | rfl | exact hb | (simp only [Bool.or_eq_false_iff, Bool.and_eq_false_iff, beq_eq_false_iff_ne, ne_eq, decide_eq_false_iff_not] at hb ⊢; omega))))
          · have c_6 : i_5 < 10 := by
              rcases Nat.lt_or_ge i_5 (10) with g | g
              · exact g
              · exact absurd (show nI (10) ≤ nI i_5 from nI_le g (by omega)) c_6
            refine j_aload_n X 1 rfl rfl dX7_start_41 ?_
            refine j_callVV X (nn := 0) (As := []) (st := []) (ci := 7) (by decide) (wE_7 _ rfl) rfl aw_534 aw_535 (g_think l D y ad M5 n (by omega) ((hs5 12 3 rfl).trans hm) (bool_keep (P := (fun b _ => b == 6 || b == 11 || b == 78 || (decide (49 ≤ b) && decide (b ≤ 59)))) (sm_tr sm_rf (sm_w hs5 (by intro b k hb; first | rfl | exact hb | (simp only [Bool.or_eq_false_iff, Bool.and_eq_false_iff, beq_eq_false_iff_ne, ne_eq, decide_eq_false_iff_not] at hb ⊢; omega)))) (fun q hq => by first | rfl | (simp; done) | (simp; omega)) hB)) aw_533 aw_536 aw_2 (by decide +kernel) ⟨by decide, by decide⟩ rfl (Nat.le_of_ble_eq_true rfl) ⟨by decide, by decide⟩ dX7_start_42 ?_
            rintro M_9 ⟨s_8, s_8_g, s_8_b⟩
            refine j_aload_n X 1 rfl rfl dX7_start_45 ?_
            refine j_get X (by decide) (wE_7 _ rfl) rfl awF7 2 (by decide) aw_21 rfl (v := .ref (ad 49)) rfl dX7_start_46 ?_
            refine j_iload X 0 rfl dX7_start_49 ?_
            refine j_putN X (up M_9 49 4 (nI i_5)) up_o (by decide) (wE_0 _ rfl) rfl awF0 4 (by decide) (wP_0_4 _ _ rfl) tyX0 tyX0_ok nmX0 rfl (ty := .int) (by decide +kernel) rfl rfl (Nat.le_of_ble_eq_true rfl) (List.mem_of_getElem? (i := 16) rfl) rfl dX7_start_51 ?_
            refine j_aload_n X 1 rfl rfl dX7_start_54 ?_
            refine j_iload_n X 2 rfl rfl dX7_start_55 ?_
            refine j_callVV X (nn := 1) (As := [.int (nI N)]) (st := []) (ci := 7) (by decide) (wE_7 _ rfl) rfl aw_545 aw_546 (g_thinkDays l D y ad (up M_9 49 4 (nI i_5)) n (by omega) ((up_slot _ (by decide)).trans ((s_8_g 3 (by decide) (by decide)).trans ((hs5 12 3 rfl).trans hm))) z2 z7 (TextOK_keep (P := (fun b _ => b == 6 || b == 11 || b == 78 || (decide (49 ≤ b) && decide (b ≤ 59)))) (sm_up (sm_tr (sm_tr sm_rf (sm_w hs5 (by intro b k hb; first | rfl | exact hb | (simp only [Bool.or_eq_false_iff, Bool.and_eq_false_iff, beq_eq_false_iff_ne, ne_eq, decide_eq_false_iff_not] at hb ⊢; omega)))) (sm_w s_8 (by intro b k hb; first | rfl | exact hb | (simp only [Bool.or_eq_false_iff, Bool.and_eq_false_iff, beq_eq_false_iff_ne, ne_eq, decide_eq_false_iff_not] at hb ⊢; omega)))) rfl) (fun _ => rfl) (fun _ => rfl) (fun _ => rfl) (fun _ => rfl) hT2) (TextOK_keep (P := (fun b _ => b == 6 || b == 11 || b == 78 || (decide (49 ≤ b) && decide (b ≤ 59)))) (sm_up (sm_tr (sm_tr sm_rf (sm_w hs5 (by intro b k hb; first | rfl | exact hb | (simp only [Bool.or_eq_false_iff, Bool.and_eq_false_iff, beq_eq_false_iff_ne, ne_eq, decide_eq_false_iff_not] at hb ⊢; omega)))) (sm_w s_8 (by intro b k hb; first | rfl | exact hb | (simp only [Bool.or_eq_false_iff, Bool.and_eq_false_iff, beq_eq_false_iff_ne, ne_eq, decide_eq_false_iff_not] at hb ⊢; omega)))) rfl) (fun _ => rfl) (fun _ => rfl) (fun _ => rfl) (fun _ => rfl) hT7) N (by omega)) aw_544 aw_547 aw_2 (by decide +kernel) ⟨by decide, by decide⟩ rfl (Nat.le_of_ble_eq_true rfl) ⟨by decide, by decide⟩ dX7_start_56 ?_
            rintro M_11 ⟨s_10, s_10_e⟩
            refine j_aload_n X 1 rfl rfl dX7_start_59 ?_
            refine j_get X (by decide) (wE_7 _ rfl) rfl awF7 2 (by decide) aw_21 rfl (v := .ref (ad 49)) rfl dX7_start_60 ?_
            refine j_callVNI X (nn := 0) (As := []) (st := []) (ci := 0) (by decide) (wE_0 _ rfl) rfl aw_462 aw_463 (g_endedMany_49 l D y ad M_11 n (by omega) ((s_10 49 3 rfl).trans ((up_slot _ (by decide)).trans ((s_8_g 3 (by decide) (by decide)).trans ((hs5 12 3 rfl).trans hm))))) (List.mem_of_getElem? (i := 31) rfl) aw_464 aw_20 (by decide +kernel) ⟨by decide, by decide⟩ rfl (Nat.le_of_ble_eq_true rfl) ⟨by decide, by decide⟩ dX7_start_63 ?_
            rintro r_12 M1_ rfl
            refine j_iload X 5 rfl dX7_start_66 ?_
            refine j_icmp_le X 83 (by decide) dX7_start_68 (fun c_13 => ?_) (fun c_13 => ?_)
            · have qc_13 := ti_le (a := r_12.toInt) (b := v4_i_5.toInt) rfl rfl c_13
              refine j_iinc X (v := (nI (i_5 + 1))) 0 [(5, .int (nI (i_5 + 1))), (0, .ref (ad 0)), (1, .int (nI N)), (2, .int what), (3, .int v3_i_5), (4, .int v4_i_5)] rfl (show nI i_5 + Int32.ofInt 1 = _ from nI_1 i_5) (by decide) rfl dX7_start_83 ?_
              refine j_goto X 34 (by decide) dX7_start_86 ?_
              refine j_lv (lv1 := [(5, .int (nI (i_5 + 1))), (0, .ref (ad 0)), (1, .int (nI N)), (2, .int what), (3, .int v3_i_5), (4, .int v4_i_5)]) [0, 1, 2, 3, 4, 5] rfl ?_
              exact ih5 (i_5 + 1) _ _ _ (by omega) (by omega) (sm_tr (sm_up (sm_tr hs5 (sm_w s_8 (by intro b k hb; first | rfl | exact hb | (simp only [Bool.or_eq_false_iff, Bool.and_eq_false_iff, beq_eq_false_iff_ne, ne_eq, decide_eq_false_iff_not] at hb ⊢; omega)))) rfl) (sm_w s_10 (by intro b k hb; first | rfl | exact hb | (simp only [Bool.or_eq_false_iff, Bool.and_eq_false_iff, beq_eq_false_iff_ne, ne_eq, decide_eq_false_iff_not] at hb ⊢; omega))))
            · have qc_13 := ti_nle (a := r_12.toInt) (b := v4_i_5.toInt) rfl rfl c_13
              refine j_iload X 0 rfl dX7_start_71 ?_
              refine j_istore_n X [(3, .int (nI i_5)), (5, .int (nI i_5)), (0, .ref (ad 0)), (1, .int (nI N)), (2, .int what), (4, .int v4_i_5)] rfl (by decide) rfl dX7_start_73 ?_
              refine j_aload_n X 2 rfl rfl dX7_start_74 ?_
              refine j_get X (by decide) (wE_7 _ rfl) rfl awF7 2 (by decide) aw_21 rfl (v := .ref (ad 49)) rfl dX7_start_75 ?_
              refine j_callVNI X (nn := 0) (As := []) (st := []) (ci := 0) (by decide) (wE_0 _ rfl) rfl aw_462 aw_463 (g_endedMany_49 l D y ad M_11 n (by omega) ((s_10 49 3 rfl).trans ((up_slot _ (by decide)).trans ((s_8_g 3 (by decide) (by decide)).trans ((hs5 12 3 rfl).trans hm))))) (List.mem_of_getElem? (i := 31) rfl) aw_464 aw_20 (by decide +kernel) ⟨by decide, by decide⟩ rfl (Nat.le_of_ble_eq_true rfl) ⟨by decide, by decide⟩ dX7_start_78 ?_
              rintro r_14 M1_ rfl
              refine j_istore X [(4, .int r_14), (3, .int (nI i_5)), (5, .int (nI i_5)), (0, .ref (ad 0)), (1, .int (nI N)), (2, .int what)] (by decide) rfl dX7_start_81 ?_
              refine j_iinc X (v := (nI (i_5 + 1))) 2 [(5, .int (nI (i_5 + 1))), (4, .int r_14), (3, .int (nI i_5)), (0, .ref (ad 0)), (1, .int (nI N)), (2, .int what)] rfl (show nI i_5 + Int32.ofInt 1 = _ from nI_1 i_5) (by decide) rfl dX7_start_83 ?_
              refine j_goto X 34 (by decide) dX7_start_86 ?_
              refine j_lv (lv1 := [(5, .int (nI (i_5 + 1))), (0, .ref (ad 0)), (1, .int (nI N)), (2, .int what), (3, .int (nI i_5)), (4, .int r_14)]) [0, 3, 4, 5, 2, 1] rfl ?_
              exact ih5 (i_5 + 1) _ _ _ (by omega) (by omega) (sm_tr (sm_up (sm_tr hs5 (sm_w s_8 (by intro b k hb; first | rfl | exact hb | (simp only [Bool.or_eq_false_iff, Bool.and_eq_false_iff, beq_eq_false_iff_ne, ne_eq, decide_eq_false_iff_not] at hb ⊢; omega)))) rfl) (sm_w s_10 (by intro b k hb; first | rfl | exact hb | (simp only [Bool.or_eq_false_iff, Bool.and_eq_false_iff, beq_eq_false_iff_ne, ne_eq, decide_eq_false_iff_not] at hb ⊢; omega))))
      refine j_lv (lv1 := [(5, .int (nI 0)), (0, .ref (ad 0)), (1, .int (nI N)), (2, .int what), (3, .int 0), (4, .int (-1))]) [0, 3, 4, 5, 2, 1] rfl ?_
      exact loop5 (10 + 1) 0 _ _ _ (by omega) (by omega) sm_rf
    · refine j_if_ne X 26 (by decide) dX7_start_16 (fun c_15 => False.elim (by revert c_15; decide)) (fun c_15 => ?_)
      refine j_aload_n X 0 rfl rfl dX7_start_19 ?_
      refine j_ldc X (v := (-1000000001)) aw_108 dX7_start_20 ?_
      refine j_callVI X (nn := 1) (As := [.int (-1000000001)]) (st := []) (ci := 7) (by decide) (wE_7 _ rfl) rfl aw_117 aw_118 (g_refuse l D y ad M (-1000000001) 1 (by decide) (by decide)) aw_116 aw_119 aw_2 (by decide +kernel) ⟨by decide, by decide⟩ rfl (Nat.le_of_ble_eq_true rfl) ⟨by decide, by decide⟩ dX7_start_22 ?_
      rintro r_ M_17 ⟨rfl, s_16⟩
      exact j_iret X hr hlocks dX7_start_25 (sm_tr sm_rf (sm_w s_16 (by intro b k hb; first | rfl | exact hb | (simp only [Bool.or_eq_false_iff, Bool.and_eq_false_iff, beq_eq_false_iff_ne, ne_eq, decide_eq_false_iff_not] at hb ⊢; omega))))
  · refine j_if_eq X 19 (by decide) dX7_start_7 (fun c_18 => ?_) (fun c_18 => False.elim (by revert c_18; decide))
    refine j_aload_n X 0 rfl rfl dX7_start_19 ?_
    refine j_ldc X (v := (-1000000001)) aw_108 dX7_start_20 ?_
    refine j_callVI X (nn := 1) (As := [.int (-1000000001)]) (st := []) (ci := 7) (by decide) (wE_7 _ rfl) rfl aw_117 aw_118 (g_refuse l D y ad M (-1000000001) 1 (by decide) (by decide)) aw_116 aw_119 aw_2 (by decide +kernel) ⟨by decide, by decide⟩ rfl (Nat.le_of_ble_eq_true rfl) ⟨by decide, by decide⟩ dX7_start_22 ?_
    rintro r_ M_20 ⟨rfl, s_19⟩
    exact j_iret X hr hlocks dX7_start_25 (sm_tr sm_rf (sm_w s_19 (by intro b k hb; first | rfl | exact hb | (simp only [Bool.or_eq_false_iff, Bool.and_eq_false_iff, beq_eq_false_iff_ne, ne_eq, decide_eq_false_iff_not] at hb ⊢; omega))))
set_option maxRecDepth 100000 in
set_option maxHeartbeats 4000000 in
theorem g_X7_pace (l : Launch) (D : va_G) (y : wY) (ad : Nat → Nat) (M : Mem) (n : Nat) (hn : n ≤ 9) (hm : M 12 3 = nI n) (hB : ∀ q, q < 9 → BoolOK (M (14 + q) 6)) (z2 z7 : Nat) (hT2 : TextOK M 2 z2) (hT7 : TextOK M 7 z7) (nn what : Int32) : MI l D y ad yX7_pace (Cond.code yX7_pace cX7_pace 6 (some .int)) 9 M [.ref (ad 0), .int nn, .int what] (fun _ M' => sm (fun b _ => b == 6 || b == 11 || b == 78 || (decide (49 ≤ b) && decide (b ≤ 59))) M M') := by
  refine MI_of (by decide) (Nat.le_of_ble_eq_true rfl) ?_
  intro p e s m args below meth c X hr hlocks
  refine j_lv (lv1 := [(0, .ref (ad 0)), (1, .int nn), (2, .int what)]) [0, 1, 2] rfl ?_
  refine j_iload_n X 1 rfl rfl dX7_pace_0 ?_
  refine j_iconst X (v := 0) (by decide) dX7_pace_1 ?_
  refine j_bipush X (v := 60) (by decide) dX7_pace_2 ?_
  refine j_callSI X (nn := 3) (As := [.int nn, .int 0, .int 60]) (st := []) aw_110 (g_X7_isWithin l D y ad M nn 0 60 0 60 (by decide) (by decide)) aw_109 aw_111 aw_2 (by decide +kernel) ⟨by decide, by decide⟩ rfl (Nat.le_of_ble_eq_true rfl) ⟨by decide, by decide⟩ dX7_pace_4 ?_
  rintro r_ M1_ (⟨rfl, rfl, h_1⟩ | ⟨rfl, rfl, h_1⟩)
  · refine j_if_eq X 19 (by decide) dX7_pace_7 (fun c_2 => False.elim (by revert c_2; decide)) (fun c_2 => ?_)
    refine j_iload_n X 2 rfl rfl dX7_pace_10 ?_
    refine j_iconst X (v := 0) (by decide) dX7_pace_11 ?_
    refine j_iconst X (v := 1) (by decide) dX7_pace_12 ?_
    refine j_callSI X (nn := 3) (As := [.int what, .int 0, .int 1]) (st := []) aw_110 (g_X7_isWithin l D y ad M what 0 1 0 1 (by decide) (by decide)) aw_109 aw_111 aw_2 (by decide +kernel) ⟨by decide, by decide⟩ rfl (Nat.le_of_ble_eq_true rfl) ⟨by decide, by decide⟩ dX7_pace_13 ?_
    rintro r_ M1_ (⟨rfl, rfl, h_3⟩ | ⟨rfl, rfl, h_3⟩)
    · refine j_if_ne X 26 (by decide) dX7_pace_16 (fun c_4 => ?_) (fun c_4 => False.elim (by revert c_4; decide))
      obtain ⟨N, hN, rfl⟩ := nI_oft (x := nn) (n := 60) (by omega) (by omega) (by decide)
      refine j_iconst X (v := 0) (by decide) dX7_pace_26 ?_
      refine j_istore_n X [(3, .int 0), (0, .ref (ad 0)), (1, .int (nI N)), (2, .int what)] rfl (by decide) rfl dX7_pace_27 ?_
      refine j_iconst X (v := (-1)) (by decide) dX7_pace_28 ?_
      refine j_istore X [(4, .int (-1)), (3, .int 0), (0, .ref (ad 0)), (1, .int (nI N)), (2, .int what)] (by decide) rfl dX7_pace_29 ?_
      refine j_iconst X (v := 0) (by decide) dX7_pace_31 ?_
      refine j_istore X [(5, .int 0), (4, .int (-1)), (3, .int 0), (0, .ref (ad 0)), (1, .int (nI N)), (2, .int what)] (by decide) rfl dX7_pace_32 ?_
      have loop5 : ∀ (n_5 i_5 : Nat) (M5 : Mem) (v3_i_5 : Int32) (v4_i_5 : Int32), i_5 ≤ 10 → 10 - i_5 < n_5 → sm (fun b _ => b == 6 || b == 11 || b == 78 || (decide (49 ≤ b) && decide (b ≤ 59))) M M5 → J p l e (rmN 9) s m args below meth c 0 0 (QI (fun _ M' => sm (fun b _ => b == 6 || b == 11 || b == 78 || (decide (49 ≤ b) && decide (b ≤ 59))) M M') D y ad M s args below) D y ad (va_A (PL y ad M) s.heap.size) 6 M5 34 [(5, .int (nI i_5)), (0, .ref (ad 0)), (1, .int (nI N)), (2, .int what), (3, .int v3_i_5), (4, .int v4_i_5)] [] := by
        intro n_5
        induction n_5 with
        | zero => intro i_5 M5 v3_i_5 v4_i_5 h1 h2; exact absurd h2 (by omega)
        | succ n_5 ih5 =>
          intro i_5 M5 v3_i_5 v4_i_5 h1i_5 h2i_5 hs5
          refine j_iload X 0 rfl dX7_pace_34 ?_
          refine j_bipush X (v := 10) (by decide) dX7_pace_36 ?_
          refine j_icmp_ge X 89 (by decide) dX7_pace_38 (fun c_6 => ?_) (fun c_6 => ?_)
          · have c_6 := (nI_leI (by omega) (by omega)).mp (show nI (10) ≤ nI i_5 from c_6)
            refine j_iload_n X 3 rfl rfl dX7_pace_89 ?_
            refine j_if_ne X 97 (by decide) dX7_pace_90 (fun c_7 => ?_) (fun c_7 => ?_)
            · have qc_7 := ti_ne (n := 0) (by decide) c_7
              refine j_iload X 5 rfl dX7_pace_97 ?_
              exact j_iret X hr hlocks dX7_pace_99 (sm_tr sm_rf (sm_w hs5 (by intro b k hb; first | rfl | exact hb | (simp only [Bool.or_eq_false_iff, Bool.and_eq_false_iff, beq_eq_false_iff_ne, ne_eq, decide_eq_false_iff_not] at hb ⊢; omega))))
            · have qc_7 := ti_eq (n := 0) (by decide) c_7
              refine j_iload_n X 4 rfl rfl dX7_pace_93 ?_
              refine j_goto X 99 (by decide) dX7_pace_94 ?_
              exact j_iret X hr hlocks dX7_pace_99 (sm_tr sm_rf (sm_w hs5 (by intro b k hb; first | rfl | exact hb | (simp only [Bool.or_eq_false_iff, Bool.and_eq_false_iff, beq_eq_false_iff_ne, ne_eq, decide_eq_false_iff_not] at hb ⊢; omega))))
          · have c_6 : i_5 < 10 := by
              rcases Nat.lt_or_ge i_5 (10) with g | g
              · exact g
              · exact absurd (show nI (10) ≤ nI i_5 from nI_le g (by omega)) c_6
            refine j_aload_n X 1 rfl rfl dX7_pace_41 ?_
            refine j_callVV X (nn := 0) (As := []) (st := []) (ci := 7) (by decide) (wE_7 _ rfl) rfl aw_534 aw_535 (g_think l D y ad M5 n (by omega) ((hs5 12 3 rfl).trans hm) (bool_keep (P := (fun b _ => b == 6 || b == 11 || b == 78 || (decide (49 ≤ b) && decide (b ≤ 59)))) (sm_tr sm_rf (sm_w hs5 (by intro b k hb; first | rfl | exact hb | (simp only [Bool.or_eq_false_iff, Bool.and_eq_false_iff, beq_eq_false_iff_ne, ne_eq, decide_eq_false_iff_not] at hb ⊢; omega)))) (fun q hq => by first | rfl | (simp; done) | (simp; omega)) hB)) aw_533 aw_536 aw_2 (by decide +kernel) ⟨by decide, by decide⟩ rfl (Nat.le_of_ble_eq_true rfl) ⟨by decide, by decide⟩ dX7_pace_42 ?_
            rintro M_9 ⟨s_8, s_8_g, s_8_b⟩
            refine j_aload_n X 1 rfl rfl dX7_pace_45 ?_
            refine j_get X (by decide) (wE_7 _ rfl) rfl awF7 2 (by decide) aw_21 rfl (v := .ref (ad 49)) rfl dX7_pace_46 ?_
            refine j_iload X 0 rfl dX7_pace_49 ?_
            refine j_putN X (up M_9 49 5 (nI i_5)) up_o (by decide) (wE_0 _ rfl) rfl awF0 5 (by decide) (wP_0_5 _ _ rfl) tyX0 tyX0_ok nmX0 rfl (ty := .int) (by decide +kernel) rfl rfl (Nat.le_of_ble_eq_true rfl) (List.mem_of_getElem? (i := 17) rfl) rfl dX7_pace_51 ?_
            refine j_aload_n X 1 rfl rfl dX7_pace_54 ?_
            refine j_iload_n X 2 rfl rfl dX7_pace_55 ?_
            refine j_callVV X (nn := 1) (As := [.int (nI N)]) (st := []) (ci := 7) (by decide) (wE_7 _ rfl) rfl aw_545 aw_546 (g_thinkDays l D y ad (up M_9 49 5 (nI i_5)) n (by omega) ((up_slot _ (by decide)).trans ((s_8_g 3 (by decide) (by decide)).trans ((hs5 12 3 rfl).trans hm))) z2 z7 (TextOK_keep (P := (fun b _ => b == 6 || b == 11 || b == 78 || (decide (49 ≤ b) && decide (b ≤ 59)))) (sm_up (sm_tr (sm_tr sm_rf (sm_w hs5 (by intro b k hb; first | rfl | exact hb | (simp only [Bool.or_eq_false_iff, Bool.and_eq_false_iff, beq_eq_false_iff_ne, ne_eq, decide_eq_false_iff_not] at hb ⊢; omega)))) (sm_w s_8 (by intro b k hb; first | rfl | exact hb | (simp only [Bool.or_eq_false_iff, Bool.and_eq_false_iff, beq_eq_false_iff_ne, ne_eq, decide_eq_false_iff_not] at hb ⊢; omega)))) rfl) (fun _ => rfl) (fun _ => rfl) (fun _ => rfl) (fun _ => rfl) hT2) (TextOK_keep (P := (fun b _ => b == 6 || b == 11 || b == 78 || (decide (49 ≤ b) && decide (b ≤ 59)))) (sm_up (sm_tr (sm_tr sm_rf (sm_w hs5 (by intro b k hb; first | rfl | exact hb | (simp only [Bool.or_eq_false_iff, Bool.and_eq_false_iff, beq_eq_false_iff_ne, ne_eq, decide_eq_false_iff_not] at hb ⊢; omega)))) (sm_w s_8 (by intro b k hb; first | rfl | exact hb | (simp only [Bool.or_eq_false_iff, Bool.and_eq_false_iff, beq_eq_false_iff_ne, ne_eq, decide_eq_false_iff_not] at hb ⊢; omega)))) rfl) (fun _ => rfl) (fun _ => rfl) (fun _ => rfl) (fun _ => rfl) hT7) N (by omega)) aw_544 aw_547 aw_2 (by decide +kernel) ⟨by decide, by decide⟩ rfl (Nat.le_of_ble_eq_true rfl) ⟨by decide, by decide⟩ dX7_pace_56 ?_
            rintro M_11 ⟨s_10, s_10_e⟩
            refine j_aload_n X 1 rfl rfl dX7_pace_59 ?_
            refine j_get X (by decide) (wE_7 _ rfl) rfl awF7 2 (by decide) aw_21 rfl (v := .ref (ad 49)) rfl dX7_pace_60 ?_
            refine j_callVNI X (nn := 0) (As := []) (st := []) (ci := 0) (by decide) (wE_0 _ rfl) rfl aw_462 aw_463 (g_endedMany_49 l D y ad M_11 n (by omega) ((s_10 49 3 rfl).trans ((up_slot _ (by decide)).trans ((s_8_g 3 (by decide) (by decide)).trans ((hs5 12 3 rfl).trans hm))))) (List.mem_of_getElem? (i := 31) rfl) aw_464 aw_20 (by decide +kernel) ⟨by decide, by decide⟩ rfl (Nat.le_of_ble_eq_true rfl) ⟨by decide, by decide⟩ dX7_pace_63 ?_
            rintro r_12 M1_ rfl
            refine j_iload X 5 rfl dX7_pace_66 ?_
            refine j_icmp_le X 83 (by decide) dX7_pace_68 (fun c_13 => ?_) (fun c_13 => ?_)
            · have qc_13 := ti_le (a := r_12.toInt) (b := v4_i_5.toInt) rfl rfl c_13
              refine j_iinc X (v := (nI (i_5 + 1))) 0 [(5, .int (nI (i_5 + 1))), (0, .ref (ad 0)), (1, .int (nI N)), (2, .int what), (3, .int v3_i_5), (4, .int v4_i_5)] rfl (show nI i_5 + Int32.ofInt 1 = _ from nI_1 i_5) (by decide) rfl dX7_pace_83 ?_
              refine j_goto X 34 (by decide) dX7_pace_86 ?_
              refine j_lv (lv1 := [(5, .int (nI (i_5 + 1))), (0, .ref (ad 0)), (1, .int (nI N)), (2, .int what), (3, .int v3_i_5), (4, .int v4_i_5)]) [0, 1, 2, 3, 4, 5] rfl ?_
              exact ih5 (i_5 + 1) _ _ _ (by omega) (by omega) (sm_tr (sm_up (sm_tr hs5 (sm_w s_8 (by intro b k hb; first | rfl | exact hb | (simp only [Bool.or_eq_false_iff, Bool.and_eq_false_iff, beq_eq_false_iff_ne, ne_eq, decide_eq_false_iff_not] at hb ⊢; omega)))) rfl) (sm_w s_10 (by intro b k hb; first | rfl | exact hb | (simp only [Bool.or_eq_false_iff, Bool.and_eq_false_iff, beq_eq_false_iff_ne, ne_eq, decide_eq_false_iff_not] at hb ⊢; omega))))
            · have qc_13 := ti_nle (a := r_12.toInt) (b := v4_i_5.toInt) rfl rfl c_13
              refine j_iload X 0 rfl dX7_pace_71 ?_
              refine j_istore_n X [(3, .int (nI i_5)), (5, .int (nI i_5)), (0, .ref (ad 0)), (1, .int (nI N)), (2, .int what), (4, .int v4_i_5)] rfl (by decide) rfl dX7_pace_73 ?_
              refine j_aload_n X 2 rfl rfl dX7_pace_74 ?_
              refine j_get X (by decide) (wE_7 _ rfl) rfl awF7 2 (by decide) aw_21 rfl (v := .ref (ad 49)) rfl dX7_pace_75 ?_
              refine j_callVNI X (nn := 0) (As := []) (st := []) (ci := 0) (by decide) (wE_0 _ rfl) rfl aw_462 aw_463 (g_endedMany_49 l D y ad M_11 n (by omega) ((s_10 49 3 rfl).trans ((up_slot _ (by decide)).trans ((s_8_g 3 (by decide) (by decide)).trans ((hs5 12 3 rfl).trans hm))))) (List.mem_of_getElem? (i := 31) rfl) aw_464 aw_20 (by decide +kernel) ⟨by decide, by decide⟩ rfl (Nat.le_of_ble_eq_true rfl) ⟨by decide, by decide⟩ dX7_pace_78 ?_
              rintro r_14 M1_ rfl
              refine j_istore X [(4, .int r_14), (3, .int (nI i_5)), (5, .int (nI i_5)), (0, .ref (ad 0)), (1, .int (nI N)), (2, .int what)] (by decide) rfl dX7_pace_81 ?_
              refine j_iinc X (v := (nI (i_5 + 1))) 2 [(5, .int (nI (i_5 + 1))), (4, .int r_14), (3, .int (nI i_5)), (0, .ref (ad 0)), (1, .int (nI N)), (2, .int what)] rfl (show nI i_5 + Int32.ofInt 1 = _ from nI_1 i_5) (by decide) rfl dX7_pace_83 ?_
              refine j_goto X 34 (by decide) dX7_pace_86 ?_
              refine j_lv (lv1 := [(5, .int (nI (i_5 + 1))), (0, .ref (ad 0)), (1, .int (nI N)), (2, .int what), (3, .int (nI i_5)), (4, .int r_14)]) [0, 3, 4, 5, 2, 1] rfl ?_
              exact ih5 (i_5 + 1) _ _ _ (by omega) (by omega) (sm_tr (sm_up (sm_tr hs5 (sm_w s_8 (by intro b k hb; first | rfl | exact hb | (simp only [Bool.or_eq_false_iff, Bool.and_eq_false_iff, beq_eq_false_iff_ne, ne_eq, decide_eq_false_iff_not] at hb ⊢; omega)))) rfl) (sm_w s_10 (by intro b k hb; first | rfl | exact hb | (simp only [Bool.or_eq_false_iff, Bool.and_eq_false_iff, beq_eq_false_iff_ne, ne_eq, decide_eq_false_iff_not] at hb ⊢; omega))))
      refine j_lv (lv1 := [(5, .int (nI 0)), (0, .ref (ad 0)), (1, .int (nI N)), (2, .int what), (3, .int 0), (4, .int (-1))]) [0, 3, 4, 5, 2, 1] rfl ?_
      exact loop5 (10 + 1) 0 _ _ _ (by omega) (by omega) sm_rf
    · refine j_if_ne X 26 (by decide) dX7_pace_16 (fun c_15 => False.elim (by revert c_15; decide)) (fun c_15 => ?_)
      refine j_aload_n X 0 rfl rfl dX7_pace_19 ?_
      refine j_ldc X (v := (-1000000001)) aw_108 dX7_pace_20 ?_
      refine j_callVI X (nn := 1) (As := [.int (-1000000001)]) (st := []) (ci := 7) (by decide) (wE_7 _ rfl) rfl aw_117 aw_118 (g_refuse l D y ad M (-1000000001) 1 (by decide) (by decide)) aw_116 aw_119 aw_2 (by decide +kernel) ⟨by decide, by decide⟩ rfl (Nat.le_of_ble_eq_true rfl) ⟨by decide, by decide⟩ dX7_pace_22 ?_
      rintro r_ M_17 ⟨rfl, s_16⟩
      exact j_iret X hr hlocks dX7_pace_25 (sm_tr sm_rf (sm_w s_16 (by intro b k hb; first | rfl | exact hb | (simp only [Bool.or_eq_false_iff, Bool.and_eq_false_iff, beq_eq_false_iff_ne, ne_eq, decide_eq_false_iff_not] at hb ⊢; omega))))
  · refine j_if_eq X 19 (by decide) dX7_pace_7 (fun c_18 => ?_) (fun c_18 => False.elim (by revert c_18; decide))
    refine j_aload_n X 0 rfl rfl dX7_pace_19 ?_
    refine j_ldc X (v := (-1000000001)) aw_108 dX7_pace_20 ?_
    refine j_callVI X (nn := 1) (As := [.int (-1000000001)]) (st := []) (ci := 7) (by decide) (wE_7 _ rfl) rfl aw_117 aw_118 (g_refuse l D y ad M (-1000000001) 1 (by decide) (by decide)) aw_116 aw_119 aw_2 (by decide +kernel) ⟨by decide, by decide⟩ rfl (Nat.le_of_ble_eq_true rfl) ⟨by decide, by decide⟩ dX7_pace_22 ?_
    rintro r_ M_20 ⟨rfl, s_19⟩
    exact j_iret X hr hlocks dX7_pace_25 (sm_tr sm_rf (sm_w s_19 (by intro b k hb; first | rfl | exact hb | (simp only [Bool.or_eq_false_iff, Bool.and_eq_false_iff, beq_eq_false_iff_ne, ne_eq, decide_eq_false_iff_not] at hb ⊢; omega))))
set_option maxRecDepth 100000 in
set_option maxHeartbeats 4000000 in
theorem g_X7_last (l : Launch) (D : va_G) (y : wY) (ad : Nat → Nat) (M : Mem) (n : Nat) (hn : n ≤ 9) (hm : M 12 3 = nI n) (hB : ∀ q, q < 9 → BoolOK (M (14 + q) 6)) (z2 z7 : Nat) (hT2 : TextOK M 2 z2) (hT7 : TextOK M 7 z7) (what : Int32) : MI l D y ad yX7_last (Cond.code yX7_last cX7_last 7 (some .int)) 9 M [.ref (ad 0), .int what] (fun _ M' => sm (fun b _ => b == 6 || b == 11 || b == 78 || (decide (49 ≤ b) && decide (b ≤ 59))) M M') := by
  refine MI_of (by decide) (Nat.le_of_ble_eq_true rfl) ?_
  intro p e s m args below meth c X hr hlocks
  refine j_lv (lv1 := [(0, .ref (ad 0)), (1, .int what)]) [0, 1] rfl ?_
  refine j_iload_n X 1 rfl rfl dX7_last_0 ?_
  refine j_iconst X (v := 0) (by decide) dX7_last_1 ?_
  refine j_iconst X (v := 1) (by decide) dX7_last_2 ?_
  refine j_callSI X (nn := 3) (As := [.int what, .int 0, .int 1]) (st := []) aw_110 (g_X7_isWithin l D y ad M what 0 1 0 1 (by decide) (by decide)) aw_109 aw_111 aw_2 (by decide +kernel) ⟨by decide, by decide⟩ rfl (Nat.le_of_ble_eq_true rfl) ⟨by decide, by decide⟩ dX7_last_3 ?_
  rintro r_ M1_ (⟨rfl, rfl, h_1⟩ | ⟨rfl, rfl, h_1⟩)
  · refine j_if_ne X 16 (by decide) dX7_last_6 (fun c_2 => ?_) (fun c_2 => False.elim (by revert c_2; decide))
    refine j_aload_n X 0 rfl rfl dX7_last_16 ?_
    refine j_callVV X (nn := 0) (As := []) (st := []) (ci := 7) (by decide) (wE_7 _ rfl) rfl aw_534 aw_535 (g_think l D y ad M n (by omega) hm hB) aw_533 aw_536 aw_2 (by decide +kernel) ⟨by decide, by decide⟩ rfl (Nat.le_of_ble_eq_true rfl) ⟨by decide, by decide⟩ dX7_last_17 ?_
    rintro M_4 ⟨s_3, s_3_g, s_3_b⟩
    refine j_iconst X (v := (-1)) (by decide) dX7_last_20 ?_
    refine j_istore_n X [(2, .int (-1)), (0, .ref (ad 0)), (1, .int what)] rfl (by decide) rfl dX7_last_21 ?_
    refine j_iconst X (v := 0) (by decide) dX7_last_22 ?_
    refine j_istore_n X [(3, .int 0), (2, .int (-1)), (0, .ref (ad 0)), (1, .int what)] rfl (by decide) rfl dX7_last_23 ?_
    refine j_iconst X (v := 1) (by decide) dX7_last_24 ?_
    refine j_istore X [(4, .int 1), (3, .int 0), (2, .int (-1)), (0, .ref (ad 0)), (1, .int what)] (by decide) rfl dX7_last_25 ?_
    have loop5 : ∀ (n_5 i_5 : Nat) (M5 : Mem) (v2_i_5 : Int32) (v3_i_5 : Int32), i_5 ≤ 61 → 61 - i_5 < n_5 → sm (fun b k => b == 6 || b == 11 || (b == 49 && (k == 4 || k == 6 || k == 7 || k == 8)) || (decide (51 ≤ b) && decide (b ≤ 59) && (k == 3 || k == 5 || k == 6))) M_4 M5 → J p l e (rmN 9) s m args below meth c 0 0 (QI (fun _ M' => sm (fun b _ => b == 6 || b == 11 || b == 78 || (decide (49 ≤ b) && decide (b ≤ 59))) M M') D y ad M s args below) D y ad (va_A (PL y ad M) s.heap.size) 7 M5 27 [(4, .int (nI i_5)), (0, .ref (ad 0)), (1, .int what), (2, .int v2_i_5), (3, .int v3_i_5)] [] := by
      intro n_5
      induction n_5 with
      | zero => intro i_5 M5 v2_i_5 v3_i_5 h1 h2; exact absurd h2 (by omega)
      | succ n_5 ih5 =>
        intro i_5 M5 v2_i_5 v3_i_5 h1i_5 h2i_5 hs5
        refine j_iload X 0 rfl dX7_last_27 ?_
        refine j_bipush X (v := 60) (by decide) dX7_last_29 ?_
        refine j_icmp_gt X 85 (by decide) dX7_last_31 (fun c_6 => ?_) (fun c_6 => ?_)
        · refine j_iload_n X 3 rfl rfl dX7_last_85 ?_
          refine j_if_ge X 96 (by decide) dX7_last_86 (fun c_7 => ?_) (fun c_7 => ?_)
          · have qc_7 := ti_le (a := 0) (b := v2_i_5.toInt) (by decide) rfl c_7
            refine j_iload_n X 2 rfl rfl dX7_last_96 ?_
            refine j_if_ne X 104 (by decide) dX7_last_97 (fun c_8 => ?_) (fun c_8 => ?_)
            · have qc_8 := ti_ne (n := 0) (by decide) c_8
              refine j_iload_n X 4 rfl rfl dX7_last_104 ?_
              exact j_iret X hr hlocks dX7_last_105 (sm_tr (sm_tr sm_rf (sm_w s_3 (by intro b k hb; first | rfl | exact hb | (simp only [Bool.or_eq_false_iff, Bool.and_eq_false_iff, beq_eq_false_iff_ne, ne_eq, decide_eq_false_iff_not] at hb ⊢; omega)))) (sm_w hs5 (by intro b k hb; first | rfl | exact hb | (simp only [Bool.or_eq_false_iff, Bool.and_eq_false_iff, beq_eq_false_iff_ne, ne_eq, decide_eq_false_iff_not] at hb ⊢; omega))))
            · have qc_8 := ti_eq (n := 0) (by decide) c_8
              refine j_iload_n X 3 rfl rfl dX7_last_100 ?_
              refine j_goto X 105 (by decide) dX7_last_101 ?_
              exact j_iret X hr hlocks dX7_last_105 (sm_tr (sm_tr sm_rf (sm_w s_3 (by intro b k hb; first | rfl | exact hb | (simp only [Bool.or_eq_false_iff, Bool.and_eq_false_iff, beq_eq_false_iff_ne, ne_eq, decide_eq_false_iff_not] at hb ⊢; omega)))) (sm_w hs5 (by intro b k hb; first | rfl | exact hb | (simp only [Bool.or_eq_false_iff, Bool.and_eq_false_iff, beq_eq_false_iff_ne, ne_eq, decide_eq_false_iff_not] at hb ⊢; omega))))
          · have qc_7 := ti_nle (a := 0) (b := v2_i_5.toInt) (by decide) rfl c_7
            refine j_aload_n X 1 rfl rfl dX7_last_89 ?_
            refine j_ldc X (v := (-1000000002)) aw_560 dX7_last_90 ?_
            refine j_callVI X (nn := 1) (As := [.int (-1000000002)]) (st := []) (ci := 7) (by decide) (wE_7 _ rfl) rfl aw_117 aw_118 (g_refuse l D y ad M5 (-1000000002) 2 (by decide) (by decide)) aw_116 aw_119 aw_2 (by decide +kernel) ⟨by decide, by decide⟩ rfl (Nat.le_of_ble_eq_true rfl) ⟨by decide, by decide⟩ dX7_last_92 ?_
            rintro r_ M_10 ⟨rfl, s_9⟩
            exact j_iret X hr hlocks dX7_last_95 (sm_tr (sm_tr (sm_tr sm_rf (sm_w s_3 (by intro b k hb; first | rfl | exact hb | (simp only [Bool.or_eq_false_iff, Bool.and_eq_false_iff, beq_eq_false_iff_ne, ne_eq, decide_eq_false_iff_not] at hb ⊢; omega)))) (sm_w hs5 (by intro b k hb; first | rfl | exact hb | (simp only [Bool.or_eq_false_iff, Bool.and_eq_false_iff, beq_eq_false_iff_ne, ne_eq, decide_eq_false_iff_not] at hb ⊢; omega)))) (sm_w s_9 (by intro b k hb; first | rfl | exact hb | (simp only [Bool.or_eq_false_iff, Bool.and_eq_false_iff, beq_eq_false_iff_ne, ne_eq, decide_eq_false_iff_not] at hb ⊢; omega))))
        · have c_6 : i_5 < 61 := by
            rcases Nat.lt_or_ge i_5 (61) with g | g
            · exact g
            · exact absurd (show nI 60 < nI i_5 from nI_lt (by omega) (by omega)) c_6
          refine j_aload_n X 1 rfl rfl dX7_last_34 ?_
          refine j_get X (by decide) (wE_7 _ rfl) rfl awF7 2 (by decide) aw_21 rfl (v := .ref (ad 49)) rfl dX7_last_35 ?_
          refine j_callVNI X (nn := 0) (As := []) (st := []) (ci := 0) (by decide) (wE_0 _ rfl) rfl aw_466 aw_467 (g_setEnded_49 l D y ad M5 n (by omega) ((hs5 49 3 rfl).trans ((s_3_g 3 (by decide) (by decide)).trans hm))) (List.mem_of_getElem? (i := 35) rfl) aw_468 aw_20 (by decide +kernel) ⟨by decide, by decide⟩ rfl (Nat.le_of_ble_eq_true rfl) ⟨by decide, by decide⟩ dX7_last_38 ?_
          rintro r_ M1_ ⟨rfl, rfl⟩
          refine j_istore X [(5, .int (setB (fun i => !decide (M5 (51 + i) 6 = 0)) n)), (4, .int (nI i_5)), (0, .ref (ad 0)), (1, .int what), (2, .int v2_i_5), (3, .int v3_i_5)] (by decide) rfl dX7_last_41 ?_
          refine j_aload_n X 2 rfl rfl dX7_last_43 ?_
          refine j_get X (by decide) (wE_7 _ rfl) rfl awF7 2 (by decide) aw_21 rfl (v := .ref (ad 49)) rfl dX7_last_44 ?_
          refine j_iconst X (v := 0) (by decide) dX7_last_47 ?_
          refine j_callVNV X (nn := 1) (As := [.int 0]) (st := []) (ci := 0) (by decide) (wE_0 _ rfl) rfl aw_439 aw_440 (g_passDay_49 l D y ad M5 n (by omega) ((hs5 49 3 rfl).trans ((s_3_g 3 (by decide) (by decide)).trans hm)) z2 z7 (TextOK_keep (P := (fun b _ => b == 6 || b == 11 || b == 78 || (decide (49 ≤ b) && decide (b ≤ 59)))) (sm_tr (sm_tr sm_rf (sm_w s_3 (by intro b k hb; first | rfl | exact hb | (simp only [Bool.or_eq_false_iff, Bool.and_eq_false_iff, beq_eq_false_iff_ne, ne_eq, decide_eq_false_iff_not] at hb ⊢; omega)))) (sm_w hs5 (by intro b k hb; first | rfl | exact hb | (simp only [Bool.or_eq_false_iff, Bool.and_eq_false_iff, beq_eq_false_iff_ne, ne_eq, decide_eq_false_iff_not] at hb ⊢; omega)))) (fun _ => rfl) (fun _ => rfl) (fun _ => rfl) (fun _ => rfl) hT2) (TextOK_keep (P := (fun b _ => b == 6 || b == 11 || b == 78 || (decide (49 ≤ b) && decide (b ≤ 59)))) (sm_tr (sm_tr sm_rf (sm_w s_3 (by intro b k hb; first | rfl | exact hb | (simp only [Bool.or_eq_false_iff, Bool.and_eq_false_iff, beq_eq_false_iff_ne, ne_eq, decide_eq_false_iff_not] at hb ⊢; omega)))) (sm_w hs5 (by intro b k hb; first | rfl | exact hb | (simp only [Bool.or_eq_false_iff, Bool.and_eq_false_iff, beq_eq_false_iff_ne, ne_eq, decide_eq_false_iff_not] at hb ⊢; omega)))) (fun _ => rfl) (fun _ => rfl) (fun _ => rfl) (fun _ => rfl) hT7) 0) (List.mem_of_getElem? (i := 27) rfl) aw_441 aw_20 (by decide +kernel) ⟨by decide, by decide⟩ rfl (Nat.le_of_ble_eq_true rfl) ⟨by decide, by decide⟩ dX7_last_48 ?_
          rintro M_12 ⟨s_11, s_11_e⟩
          refine j_aload_n X 2 rfl rfl dX7_last_51 ?_
          refine j_get X (by decide) (wE_7 _ rfl) rfl awF7 2 (by decide) aw_21 rfl (v := .ref (ad 49)) rfl dX7_last_52 ?_
          refine j_callVNI X (nn := 0) (As := []) (st := []) (ci := 0) (by decide) (wE_0 _ rfl) rfl aw_466 aw_467 (g_setEnded_49 l D y ad M_12 n (by omega) ((s_11 49 3 rfl).trans ((hs5 49 3 rfl).trans ((s_3_g 3 (by decide) (by decide)).trans hm)))) (List.mem_of_getElem? (i := 35) rfl) aw_468 aw_20 (by decide +kernel) ⟨by decide, by decide⟩ rfl (Nat.le_of_ble_eq_true rfl) ⟨by decide, by decide⟩ dX7_last_55 ?_
          rintro r_ M1_ ⟨rfl, rfl⟩
          refine j_iload X 0 rfl dX7_last_58 ?_
          refine j_iconst X (v := (-1)) (by decide) dX7_last_60 ?_
          refine j_ixor X dX7_last_61 ?_
          refine j_iand X dX7_last_62 ?_
          refine j_topi (fun g_13 _ => ?_)
          refine j_istore X [(6, .int g_13), (5, .int (setB (fun i => !decide (M5 (51 + i) 6 = 0)) n)), (4, .int (nI i_5)), (0, .ref (ad 0)), (1, .int what), (2, .int v2_i_5), (3, .int v3_i_5)] (by decide) rfl dX7_last_63 ?_
          refine j_iload X 0 rfl dX7_last_65 ?_
          refine j_if_eq X 79 (by decide) dX7_last_67 (fun c_14 => ?_) (fun c_14 => ?_)
          · have qc_14 := ti_eq (n := 0) (by decide) c_14
            refine j_iinc X (v := (nI (i_5 + 1))) 2 [(4, .int (nI (i_5 + 1))), (6, .int g_13), (5, .int (setB (fun i => !decide (M5 (51 + i) 6 = 0)) n)), (0, .ref (ad 0)), (1, .int what), (2, .int v2_i_5), (3, .int v3_i_5)] rfl (show nI i_5 + Int32.ofInt 1 = _ from nI_1 i_5) (by decide) rfl dX7_last_79 ?_
            refine j_goto X 27 (by decide) dX7_last_82 ?_
            refine j_lv (lv1 := [(4, .int (nI (i_5 + 1))), (0, .ref (ad 0)), (1, .int what), (2, .int v2_i_5), (3, .int v3_i_5)]) [0, 3, 4, 5, 6] rfl ?_
            exact ih5 (i_5 + 1) _ _ _ (by omega) (by omega) (sm_tr hs5 (sm_w s_11 (by intro b k hb; first | rfl | exact hb | (simp only [Bool.or_eq_false_iff, Bool.and_eq_false_iff, beq_eq_false_iff_ne, ne_eq, decide_eq_false_iff_not] at hb ⊢; omega))))
          · have qc_14 := ti_ne (n := 0) (by decide) c_14
            refine j_iload X 0 rfl dX7_last_70 ?_
            refine j_callSI X (nn := 1) (As := [.int g_13]) (st := []) aw_664 (g_greatestOf l D y ad M_12 g_13) aw_663 aw_665 aw_2 (by decide +kernel) ⟨by decide, by decide⟩ rfl (Nat.le_of_ble_eq_true rfl) ⟨by decide, by decide⟩ dX7_last_72 ?_
            rintro r_15 M1_ rfl
            refine j_istore_n X [(2, .int r_15), (6, .int g_13), (5, .int (setB (fun i => !decide (M5 (51 + i) 6 = 0)) n)), (4, .int (nI i_5)), (0, .ref (ad 0)), (1, .int what), (3, .int v3_i_5)] rfl (by decide) rfl dX7_last_75 ?_
            refine j_iload X 3 rfl dX7_last_76 ?_
            refine j_istore_n X [(3, .int (nI i_5)), (2, .int r_15), (6, .int g_13), (5, .int (setB (fun i => !decide (M5 (51 + i) 6 = 0)) n)), (4, .int (nI i_5)), (0, .ref (ad 0)), (1, .int what)] rfl (by decide) rfl dX7_last_78 ?_
            refine j_iinc X (v := (nI (i_5 + 1))) 4 [(4, .int (nI (i_5 + 1))), (3, .int (nI i_5)), (2, .int r_15), (6, .int g_13), (5, .int (setB (fun i => !decide (M5 (51 + i) 6 = 0)) n)), (0, .ref (ad 0)), (1, .int what)] rfl (show nI i_5 + Int32.ofInt 1 = _ from nI_1 i_5) (by decide) rfl dX7_last_79 ?_
            refine j_goto X 27 (by decide) dX7_last_82 ?_
            refine j_lv (lv1 := [(4, .int (nI (i_5 + 1))), (0, .ref (ad 0)), (1, .int what), (2, .int r_15), (3, .int (nI i_5))]) [0, 5, 6, 2, 1] rfl ?_
            exact ih5 (i_5 + 1) _ _ _ (by omega) (by omega) (sm_tr hs5 (sm_w s_11 (by intro b k hb; first | rfl | exact hb | (simp only [Bool.or_eq_false_iff, Bool.and_eq_false_iff, beq_eq_false_iff_ne, ne_eq, decide_eq_false_iff_not] at hb ⊢; omega))))
    refine j_lv (lv1 := [(4, .int (nI 1)), (0, .ref (ad 0)), (1, .int what), (2, .int (-1)), (3, .int 0)]) [0, 3, 4, 2, 1] rfl ?_
    exact loop5 (61 + 1) 1 _ _ _ (by omega) (by omega) sm_rf
  · refine j_if_ne X 16 (by decide) dX7_last_6 (fun c_16 => False.elim (by revert c_16; decide)) (fun c_16 => ?_)
    refine j_aload_n X 0 rfl rfl dX7_last_9 ?_
    refine j_ldc X (v := (-1000000001)) aw_108 dX7_last_10 ?_
    refine j_callVI X (nn := 1) (As := [.int (-1000000001)]) (st := []) (ci := 7) (by decide) (wE_7 _ rfl) rfl aw_117 aw_118 (g_refuse l D y ad M (-1000000001) 1 (by decide) (by decide)) aw_116 aw_119 aw_2 (by decide +kernel) ⟨by decide, by decide⟩ rfl (Nat.le_of_ble_eq_true rfl) ⟨by decide, by decide⟩ dX7_last_12 ?_
    rintro r_ M_18 ⟨rfl, s_17⟩
    exact j_iret X hr hlocks dX7_last_15 (sm_tr sm_rf (sm_w s_17 (by intro b k hb; first | rfl | exact hb | (simp only [Bool.or_eq_false_iff, Bool.and_eq_false_iff, beq_eq_false_iff_ne, ne_eq, decide_eq_false_iff_not] at hb ⊢; omega))))
set_option maxRecDepth 100000 in
set_option maxHeartbeats 4000000 in
theorem g_X7_then (l : Launch) (D : va_G) (y : wY) (ad : Nat → Nat) (M : Mem) (n : Nat) (hn : n ≤ 9) (hm : M 12 3 = nI n) (hB : ∀ q, q < 9 → BoolOK (M (14 + q) 6)) (z2 z7 : Nat) (hT2 : TextOK M 2 z2) (hT7 : TextOK M 7 z7) (nn q what : Int32) : MI l D y ad yX7_then (Cond.code yX7_then cX7_then 5 (some .int)) 9 M [.ref (ad 0), .int nn, .int q, .int what] (fun _ M' => sm (fun b _ => b == 6 || b == 11 || b == 78 || (decide (49 ≤ b) && decide (b ≤ 59))) M M') := by
  refine MI_of (by decide) (Nat.le_of_ble_eq_true rfl) ?_
  intro p e s m args below meth c X hr hlocks
  refine j_lv (lv1 := [(0, .ref (ad 0)), (1, .int nn), (2, .int q), (3, .int what)]) [0, 1, 2, 3] rfl ?_
  refine j_iload_n X 1 rfl rfl dX7_then_0 ?_
  refine j_iconst X (v := 0) (by decide) dX7_then_1 ?_
  refine j_bipush X (v := 60) (by decide) dX7_then_2 ?_
  refine j_callSI X (nn := 3) (As := [.int nn, .int 0, .int 60]) (st := []) aw_110 (g_X7_isWithin l D y ad M nn 0 60 0 60 (by decide) (by decide)) aw_109 aw_111 aw_2 (by decide +kernel) ⟨by decide, by decide⟩ rfl (Nat.le_of_ble_eq_true rfl) ⟨by decide, by decide⟩ dX7_then_4 ?_
  rintro r_ M1_ (⟨rfl, rfl, h_1⟩ | ⟨rfl, rfl, h_1⟩)
  · refine j_if_eq X 27 (by decide) dX7_then_7 (fun c_2 => False.elim (by revert c_2; decide)) (fun c_2 => ?_)
    refine j_aload_n X 0 rfl rfl dX7_then_10 ?_
    refine j_iload_n X 2 rfl rfl dX7_then_11 ?_
    refine j_callVI X (nn := 1) (As := [.int q]) (st := []) (ci := 7) (by decide) (wE_7 _ rfl) rfl aw_191 aw_192 (g_isQuarrel l D y ad M n (by omega) hm q) aw_190 aw_193 aw_2 (by decide +kernel) ⟨by decide, by decide⟩ rfl (Nat.le_of_ble_eq_true rfl) ⟨by decide, by decide⟩ dX7_then_12 ?_
    rintro r_ M1_ (⟨rfl, rfl, h_3⟩ | ⟨rfl, rfl⟩)
    · refine j_if_eq X 27 (by decide) dX7_then_15 (fun c_4 => False.elim (by revert c_4; decide)) (fun c_4 => ?_)
      refine j_iload_n X 3 rfl rfl dX7_then_18 ?_
      refine j_iconst X (v := 0) (by decide) dX7_then_19 ?_
      refine j_iconst X (v := 2) (by decide) dX7_then_20 ?_
      refine j_callSI X (nn := 3) (As := [.int what, .int 0, .int 2]) (st := []) aw_110 (g_X7_isWithin l D y ad M what 0 2 0 2 (by decide) (by decide)) aw_109 aw_111 aw_2 (by decide +kernel) ⟨by decide, by decide⟩ rfl (Nat.le_of_ble_eq_true rfl) ⟨by decide, by decide⟩ dX7_then_21 ?_
      rintro r_ M1_ (⟨rfl, rfl, h_5⟩ | ⟨rfl, rfl, h_5⟩)
      · refine j_if_ne X 34 (by decide) dX7_then_24 (fun c_6 => ?_) (fun c_6 => False.elim (by revert c_6; decide))
        obtain ⟨N, hN, rfl⟩ := nI_oft (x := nn) (n := 60) (by omega) (by omega) (by decide)
        refine j_aload_n X 0 rfl rfl dX7_then_34 ?_
        refine j_callVV X (nn := 0) (As := []) (st := []) (ci := 7) (by decide) (wE_7 _ rfl) rfl aw_534 aw_535 (g_think l D y ad M n (by omega) hm hB) aw_533 aw_536 aw_2 (by decide +kernel) ⟨by decide, by decide⟩ rfl (Nat.le_of_ble_eq_true rfl) ⟨by decide, by decide⟩ dX7_then_35 ?_
        rintro M_8 ⟨s_7, s_7_g, s_7_b⟩
        refine j_aload_n X 0 rfl rfl dX7_then_38 ?_
        refine j_iload_n X 1 rfl rfl dX7_then_39 ?_
        refine j_callVV X (nn := 1) (As := [.int (nI N)]) (st := []) (ci := 7) (by decide) (wE_7 _ rfl) rfl aw_545 aw_546 (g_thinkDays l D y ad M_8 n (by omega) ((s_7_g 3 (by decide) (by decide)).trans hm) z2 z7 (TextOK_keep (P := (fun b _ => b == 6 || b == 11 || b == 78 || (decide (49 ≤ b) && decide (b ≤ 59)))) (sm_tr sm_rf (sm_w s_7 (by intro b k hb; first | rfl | exact hb | (simp only [Bool.or_eq_false_iff, Bool.and_eq_false_iff, beq_eq_false_iff_ne, ne_eq, decide_eq_false_iff_not] at hb ⊢; omega)))) (fun _ => rfl) (fun _ => rfl) (fun _ => rfl) (fun _ => rfl) hT2) (TextOK_keep (P := (fun b _ => b == 6 || b == 11 || b == 78 || (decide (49 ≤ b) && decide (b ≤ 59)))) (sm_tr sm_rf (sm_w s_7 (by intro b k hb; first | rfl | exact hb | (simp only [Bool.or_eq_false_iff, Bool.and_eq_false_iff, beq_eq_false_iff_ne, ne_eq, decide_eq_false_iff_not] at hb ⊢; omega)))) (fun _ => rfl) (fun _ => rfl) (fun _ => rfl) (fun _ => rfl) hT7) N (by omega)) aw_544 aw_547 aw_2 (by decide +kernel) ⟨by decide, by decide⟩ rfl (Nat.le_of_ble_eq_true rfl) ⟨by decide, by decide⟩ dX7_then_40 ?_
        rintro M_10 ⟨s_9, s_9_e⟩
        refine j_aload_n X 0 rfl rfl dX7_then_43 ?_
        refine j_get X (by decide) (wE_7 _ rfl) rfl awF7 2 (by decide) aw_21 rfl (v := .ref (ad 49)) rfl dX7_then_44 ?_
        refine j_getN X (by decide) (wE_0 _ rfl) rfl awF0 2 (by decide) (List.mem_of_getElem? (i := 14) rfl) rfl (v := .ref (ad 50)) rfl dX7_then_47 ?_
        refine j_iload_n X 2 rfl rfl dX7_then_50 ?_
        obtain ⟨j_11, hj_11, ej_11⟩ := nI_oft (x := q) (n := 8) (by omega) (by omega) (by decide)
        refine j_eqi (v := nI j_11) ej_11 ?_
        refine j_aald10 X (by decide) rfl (show vp_in (nI j_11) 9 from vp_in_nI (by omega) (by decide)) dX7_then_51 ?_
        refine j_eqr (v := 51 + j_11) (by rw [nI_clamp (by omega)]; exact rf_one49 (by omega)) ?_
        refine j_astore X [(4, .ref (ad (51 + j_11))), (0, .ref (ad 0)), (1, .int (nI N)), (2, .int q), (3, .int what)] (by decide) rfl dX7_then_52 ?_
        refine j_iload_n X 4 rfl rfl dX7_then_54 ?_
        by_cases w_12 : what = 0
        · refine j_lsw X 80 (by decide) (off := 25) (by rw [w_12]; decide) (by decide) dX7_then_55 ?_
          have qw_12 := ti_eq (n := 0) (by decide) w_12
          refine j_aload X 0 rfl dX7_then_80 ?_
          refine j_getN X (by omega) (wE_1 _ (kd_one49 (by omega))) rfl awF1 3 (by decide) (List.mem_of_getElem? (i := 6) rfl) rfl (v := .int (M_10 (51 + j_11) 3)) rfl dX7_then_82 ?_
          exact j_iret X hr hlocks dX7_then_85 (sm_tr (sm_tr sm_rf (sm_w s_7 (by intro b k hb; first | rfl | exact hb | (simp only [Bool.or_eq_false_iff, Bool.and_eq_false_iff, beq_eq_false_iff_ne, ne_eq, decide_eq_false_iff_not] at hb ⊢; omega)))) (sm_w s_9 (by intro b k hb; first | rfl | exact hb | (simp only [Bool.or_eq_false_iff, Bool.and_eq_false_iff, beq_eq_false_iff_ne, ne_eq, decide_eq_false_iff_not] at hb ⊢; omega))))
        by_cases w_13 : what = 1
        · refine j_lsw X 86 (by decide) (off := 31) (by rw [w_13]; decide) (by decide) dX7_then_55 ?_
          have qw_13 := ti_eq (n := 1) (by decide) w_13
          refine j_aload X 0 rfl dX7_then_86 ?_
          refine j_getN X (by omega) (wE_1 _ (kd_one49 (by omega))) rfl awF1 6 (by decide) (List.mem_of_getElem? (i := 12) rfl) rfl (v := .int (M_10 (51 + j_11) 6)) rfl dX7_then_88 ?_
          refine j_if_eq X 98 (by decide) dX7_then_91 (fun c_14 => ?_) (fun c_14 => ?_)
          · have qc_14 := ti_eq (n := 0) (by decide) c_14
            refine j_iconst X (v := 0) (by decide) dX7_then_98 ?_
            exact j_iret X hr hlocks dX7_then_99 (sm_tr (sm_tr sm_rf (sm_w s_7 (by intro b k hb; first | rfl | exact hb | (simp only [Bool.or_eq_false_iff, Bool.and_eq_false_iff, beq_eq_false_iff_ne, ne_eq, decide_eq_false_iff_not] at hb ⊢; omega)))) (sm_w s_9 (by intro b k hb; first | rfl | exact hb | (simp only [Bool.or_eq_false_iff, Bool.and_eq_false_iff, beq_eq_false_iff_ne, ne_eq, decide_eq_false_iff_not] at hb ⊢; omega))))
          · have qc_14 := ti_ne (n := 0) (by decide) c_14
            refine j_iconst X (v := 1) (by decide) dX7_then_94 ?_
            refine j_goto X 99 (by decide) dX7_then_95 ?_
            exact j_iret X hr hlocks dX7_then_99 (sm_tr (sm_tr sm_rf (sm_w s_7 (by intro b k hb; first | rfl | exact hb | (simp only [Bool.or_eq_false_iff, Bool.and_eq_false_iff, beq_eq_false_iff_ne, ne_eq, decide_eq_false_iff_not] at hb ⊢; omega)))) (sm_w s_9 (by intro b k hb; first | rfl | exact hb | (simp only [Bool.or_eq_false_iff, Bool.and_eq_false_iff, beq_eq_false_iff_ne, ne_eq, decide_eq_false_iff_not] at hb ⊢; omega))))
        have qw_12 := ti_ne (n := 0) (by decide) w_12
        have qw_13 := ti_ne (n := 1) (by decide) w_13
        refine j_lsw X 100 (by decide) (off := 45) (by simp [Op.lookupswitch.offset, qw_12, Ne.symm qw_12, qw_13, Ne.symm qw_13]) (by decide) dX7_then_55 ?_
        refine j_aload X 0 rfl dX7_then_100 ?_
        refine j_getN X (by omega) (wE_1 _ (kd_one49 (by omega))) rfl awF1 5 (by decide) (List.mem_of_getElem? (i := 10) rfl) rfl (v := .int (M_10 (51 + j_11) 5)) rfl dX7_then_102 ?_
        exact j_iret X hr hlocks dX7_then_105 (sm_tr (sm_tr sm_rf (sm_w s_7 (by intro b k hb; first | rfl | exact hb | (simp only [Bool.or_eq_false_iff, Bool.and_eq_false_iff, beq_eq_false_iff_ne, ne_eq, decide_eq_false_iff_not] at hb ⊢; omega)))) (sm_w s_9 (by intro b k hb; first | rfl | exact hb | (simp only [Bool.or_eq_false_iff, Bool.and_eq_false_iff, beq_eq_false_iff_ne, ne_eq, decide_eq_false_iff_not] at hb ⊢; omega))))
      · refine j_if_ne X 34 (by decide) dX7_then_24 (fun c_15 => False.elim (by revert c_15; decide)) (fun c_15 => ?_)
        refine j_aload_n X 0 rfl rfl dX7_then_27 ?_
        refine j_ldc X (v := (-1000000001)) aw_108 dX7_then_28 ?_
        refine j_callVI X (nn := 1) (As := [.int (-1000000001)]) (st := []) (ci := 7) (by decide) (wE_7 _ rfl) rfl aw_117 aw_118 (g_refuse l D y ad M (-1000000001) 1 (by decide) (by decide)) aw_116 aw_119 aw_2 (by decide +kernel) ⟨by decide, by decide⟩ rfl (Nat.le_of_ble_eq_true rfl) ⟨by decide, by decide⟩ dX7_then_30 ?_
        rintro r_ M_17 ⟨rfl, s_16⟩
        exact j_iret X hr hlocks dX7_then_33 (sm_tr sm_rf (sm_w s_16 (by intro b k hb; first | rfl | exact hb | (simp only [Bool.or_eq_false_iff, Bool.and_eq_false_iff, beq_eq_false_iff_ne, ne_eq, decide_eq_false_iff_not] at hb ⊢; omega))))
    · refine j_if_eq X 27 (by decide) dX7_then_15 (fun c_18 => ?_) (fun c_18 => False.elim (by revert c_18; decide))
      refine j_aload_n X 0 rfl rfl dX7_then_27 ?_
      refine j_ldc X (v := (-1000000001)) aw_108 dX7_then_28 ?_
      refine j_callVI X (nn := 1) (As := [.int (-1000000001)]) (st := []) (ci := 7) (by decide) (wE_7 _ rfl) rfl aw_117 aw_118 (g_refuse l D y ad M (-1000000001) 1 (by decide) (by decide)) aw_116 aw_119 aw_2 (by decide +kernel) ⟨by decide, by decide⟩ rfl (Nat.le_of_ble_eq_true rfl) ⟨by decide, by decide⟩ dX7_then_30 ?_
      rintro r_ M_20 ⟨rfl, s_19⟩
      exact j_iret X hr hlocks dX7_then_33 (sm_tr sm_rf (sm_w s_19 (by intro b k hb; first | rfl | exact hb | (simp only [Bool.or_eq_false_iff, Bool.and_eq_false_iff, beq_eq_false_iff_ne, ne_eq, decide_eq_false_iff_not] at hb ⊢; omega))))
  · refine j_if_eq X 27 (by decide) dX7_then_7 (fun c_21 => ?_) (fun c_21 => False.elim (by revert c_21; decide))
    refine j_aload_n X 0 rfl rfl dX7_then_27 ?_
    refine j_ldc X (v := (-1000000001)) aw_108 dX7_then_28 ?_
    refine j_callVI X (nn := 1) (As := [.int (-1000000001)]) (st := []) (ci := 7) (by decide) (wE_7 _ rfl) rfl aw_117 aw_118 (g_refuse l D y ad M (-1000000001) 1 (by decide) (by decide)) aw_116 aw_119 aw_2 (by decide +kernel) ⟨by decide, by decide⟩ rfl (Nat.le_of_ble_eq_true rfl) ⟨by decide, by decide⟩ dX7_then_30 ?_
    rintro r_ M_23 ⟨rfl, s_22⟩
    exact j_iret X hr hlocks dX7_then_33 (sm_tr sm_rf (sm_w s_22 (by intro b k hb; first | rfl | exact hb | (simp only [Bool.or_eq_false_iff, Bool.and_eq_false_iff, beq_eq_false_iff_ne, ne_eq, decide_eq_false_iff_not] at hb ⊢; omega))))
set_option maxRecDepth 100000 in
set_option maxHeartbeats 4000000 in
theorem g_X7_when (l : Launch) (D : va_G) (y : wY) (ad : Nat → Nat) (M : Mem) (n : Nat) (hn : n ≤ 9) (hm : M 12 3 = nI n) (hB : ∀ q, q < 9 → BoolOK (M (14 + q) 6)) (z2 z7 : Nat) (hT2 : TextOK M 2 z2) (hT7 : TextOK M 7 z7) (q : Int32) : MI l D y ad yX7_when (Cond.code yX7_when cX7_when 3 (some .int)) 9 M [.ref (ad 0), .int q] (fun _ M' => sm (fun b _ => b == 6 || b == 11 || b == 78 || (decide (49 ≤ b) && decide (b ≤ 59))) M M') := by
  refine MI_of (by decide) (Nat.le_of_ble_eq_true rfl) ?_
  intro p e s m args below meth c X hr hlocks
  refine j_lv (lv1 := [(0, .ref (ad 0)), (1, .int q)]) [0, 1] rfl ?_
  refine j_aload_n X 0 rfl rfl dX7_when_0 ?_
  refine j_iload_n X 1 rfl rfl dX7_when_1 ?_
  refine j_callVI X (nn := 1) (As := [.int q]) (st := []) (ci := 7) (by decide) (wE_7 _ rfl) rfl aw_191 aw_192 (g_isQuarrel l D y ad M n (by omega) hm q) aw_190 aw_193 aw_2 (by decide +kernel) ⟨by decide, by decide⟩ rfl (Nat.le_of_ble_eq_true rfl) ⟨by decide, by decide⟩ dX7_when_2 ?_
  rintro r_ M1_ (⟨rfl, rfl, h_1⟩ | ⟨rfl, rfl⟩)
  · refine j_if_ne X 15 (by decide) dX7_when_5 (fun c_2 => ?_) (fun c_2 => False.elim (by revert c_2; decide))
    refine j_aload_n X 0 rfl rfl dX7_when_15 ?_
    refine j_callVV X (nn := 0) (As := []) (st := []) (ci := 7) (by decide) (wE_7 _ rfl) rfl aw_534 aw_535 (g_think l D y ad M n (by omega) hm hB) aw_533 aw_536 aw_2 (by decide +kernel) ⟨by decide, by decide⟩ rfl (Nat.le_of_ble_eq_true rfl) ⟨by decide, by decide⟩ dX7_when_16 ?_
    rintro M_4 ⟨s_3, s_3_g, s_3_b⟩
    refine j_iconst X (v := 0) (by decide) dX7_when_19 ?_
    refine j_istore_n X [(2, .int 0), (0, .ref (ad 0)), (1, .int q)] rfl (by decide) rfl dX7_when_20 ?_
    have loop5 : ∀ (n_5 i_5 : Nat) (M5 : Mem), i_5 ≤ 61 → 61 - i_5 < n_5 → sm (fun b k => b == 6 || b == 11 || (b == 49 && (k == 4 || k == 6 || k == 7 || k == 8)) || (decide (51 ≤ b) && decide (b ≤ 59) && (k == 3 || k == 5 || k == 6))) M_4 M5 → J p l e (rmN 9) s m args below meth c 0 0 (QI (fun _ M' => sm (fun b _ => b == 6 || b == 11 || b == 78 || (decide (49 ≤ b) && decide (b ≤ 59))) M M') D y ad M s args below) D y ad (va_A (PL y ad M) s.heap.size) 3 M5 21 [(2, .int (nI i_5)), (0, .ref (ad 0)), (1, .int q)] [] := by
      intro n_5
      induction n_5 with
      | zero => intro i_5 M5 h1 h2; exact absurd h2 (by omega)
      | succ n_5 ih5 =>
        intro i_5 M5 h1i_5 h2i_5 hs5
        refine j_iload_n X 0 rfl rfl dX7_when_21 ?_
        refine j_bipush X (v := 60) (by decide) dX7_when_22 ?_
        refine j_icmp_gt X 58 (by decide) dX7_when_24 (fun c_6 => ?_) (fun c_6 => ?_)
        · refine j_aload_n X 1 rfl rfl dX7_when_58 ?_
          refine j_ldc X (v := (-1000000002)) aw_560 dX7_when_59 ?_
          refine j_callVI X (nn := 1) (As := [.int (-1000000002)]) (st := []) (ci := 7) (by decide) (wE_7 _ rfl) rfl aw_117 aw_118 (g_refuse l D y ad M5 (-1000000002) 2 (by decide) (by decide)) aw_116 aw_119 aw_2 (by decide +kernel) ⟨by decide, by decide⟩ rfl (Nat.le_of_ble_eq_true rfl) ⟨by decide, by decide⟩ dX7_when_61 ?_
          rintro r_ M_8 ⟨rfl, s_7⟩
          exact j_iret X hr hlocks dX7_when_64 (sm_tr (sm_tr (sm_tr sm_rf (sm_w s_3 (by intro b k hb; first | rfl | exact hb | (simp only [Bool.or_eq_false_iff, Bool.and_eq_false_iff, beq_eq_false_iff_ne, ne_eq, decide_eq_false_iff_not] at hb ⊢; omega)))) (sm_w hs5 (by intro b k hb; first | rfl | exact hb | (simp only [Bool.or_eq_false_iff, Bool.and_eq_false_iff, beq_eq_false_iff_ne, ne_eq, decide_eq_false_iff_not] at hb ⊢; omega)))) (sm_w s_7 (by intro b k hb; first | rfl | exact hb | (simp only [Bool.or_eq_false_iff, Bool.and_eq_false_iff, beq_eq_false_iff_ne, ne_eq, decide_eq_false_iff_not] at hb ⊢; omega))))
        · have c_6 : i_5 < 61 := by
            rcases Nat.lt_or_ge i_5 (61) with g | g
            · exact g
            · exact absurd (show nI 60 < nI i_5 from nI_lt (by omega) (by omega)) c_6
          refine j_aload_n X 1 rfl rfl dX7_when_27 ?_
          refine j_get X (by decide) (wE_7 _ rfl) rfl awF7 2 (by decide) aw_21 rfl (v := .ref (ad 49)) rfl dX7_when_28 ?_
          refine j_getN X (by decide) (wE_0 _ rfl) rfl awF0 2 (by decide) (List.mem_of_getElem? (i := 14) rfl) rfl (v := .ref (ad 50)) rfl dX7_when_31 ?_
          refine j_iload_n X 2 rfl rfl dX7_when_34 ?_
          obtain ⟨j_9, hj_9, ej_9⟩ := nI_oft (x := q) (n := 8) (by omega) (by omega) (by decide)
          refine j_eqi (v := nI j_9) ej_9 ?_
          refine j_aald10 X (by decide) rfl (show vp_in (nI j_9) 9 from vp_in_nI (by omega) (by decide)) dX7_when_35 ?_
          refine j_eqr (v := 51 + j_9) (by rw [nI_clamp (by omega)]; exact rf_one49 (by omega)) ?_
          refine j_getN X (by omega) (wE_1 _ (kd_one49 (by omega))) rfl awF1 6 (by decide) (List.mem_of_getElem? (i := 12) rfl) rfl (v := .int (M5 (51 + j_9) 6)) rfl dX7_when_36 ?_
          refine j_if_eq X 44 (by decide) dX7_when_39 (fun c_10 => ?_) (fun c_10 => ?_)
          · have qc_10 := ti_eq (n := 0) (by decide) c_10
            refine j_aload_n X 1 rfl rfl dX7_when_44 ?_
            refine j_get X (by decide) (wE_7 _ rfl) rfl awF7 2 (by decide) aw_21 rfl (v := .ref (ad 49)) rfl dX7_when_45 ?_
            refine j_iconst X (v := 0) (by decide) dX7_when_48 ?_
            refine j_callVNV X (nn := 1) (As := [.int 0]) (st := []) (ci := 0) (by decide) (wE_0 _ rfl) rfl aw_439 aw_440 (g_passDay_49 l D y ad M5 n (by omega) ((hs5 49 3 rfl).trans ((s_3_g 3 (by decide) (by decide)).trans hm)) z2 z7 (TextOK_keep (P := (fun b _ => b == 6 || b == 11 || b == 78 || (decide (49 ≤ b) && decide (b ≤ 59)))) (sm_tr (sm_tr sm_rf (sm_w s_3 (by intro b k hb; first | rfl | exact hb | (simp only [Bool.or_eq_false_iff, Bool.and_eq_false_iff, beq_eq_false_iff_ne, ne_eq, decide_eq_false_iff_not] at hb ⊢; omega)))) (sm_w hs5 (by intro b k hb; first | rfl | exact hb | (simp only [Bool.or_eq_false_iff, Bool.and_eq_false_iff, beq_eq_false_iff_ne, ne_eq, decide_eq_false_iff_not] at hb ⊢; omega)))) (fun _ => rfl) (fun _ => rfl) (fun _ => rfl) (fun _ => rfl) hT2) (TextOK_keep (P := (fun b _ => b == 6 || b == 11 || b == 78 || (decide (49 ≤ b) && decide (b ≤ 59)))) (sm_tr (sm_tr sm_rf (sm_w s_3 (by intro b k hb; first | rfl | exact hb | (simp only [Bool.or_eq_false_iff, Bool.and_eq_false_iff, beq_eq_false_iff_ne, ne_eq, decide_eq_false_iff_not] at hb ⊢; omega)))) (sm_w hs5 (by intro b k hb; first | rfl | exact hb | (simp only [Bool.or_eq_false_iff, Bool.and_eq_false_iff, beq_eq_false_iff_ne, ne_eq, decide_eq_false_iff_not] at hb ⊢; omega)))) (fun _ => rfl) (fun _ => rfl) (fun _ => rfl) (fun _ => rfl) hT7) 0) (List.mem_of_getElem? (i := 27) rfl) aw_441 aw_20 (by decide +kernel) ⟨by decide, by decide⟩ rfl (Nat.le_of_ble_eq_true rfl) ⟨by decide, by decide⟩ dX7_when_49 ?_
            rintro M_12 ⟨s_11, s_11_e⟩
            refine j_iinc X (v := (nI (i_5 + 1))) 0 [(2, .int (nI (i_5 + 1))), (0, .ref (ad 0)), (1, .int q)] rfl (show nI i_5 + Int32.ofInt 1 = _ from nI_1 i_5) (by decide) rfl dX7_when_52 ?_
            refine j_goto X 21 (by decide) dX7_when_55 ?_
            refine j_lv (lv1 := [(2, .int (nI (i_5 + 1))), (0, .ref (ad 0)), (1, .int q)]) [0, 1, 2] rfl ?_
            exact ih5 (i_5 + 1) _ (by omega) (by omega) (sm_tr hs5 (sm_w s_11 (by intro b k hb; first | rfl | exact hb | (simp only [Bool.or_eq_false_iff, Bool.and_eq_false_iff, beq_eq_false_iff_ne, ne_eq, decide_eq_false_iff_not] at hb ⊢; omega))))
          · have qc_10 := ti_ne (n := 0) (by decide) c_10
            refine j_iload_n X 0 rfl rfl dX7_when_42 ?_
            exact j_iret X hr hlocks dX7_when_43 (sm_tr (sm_tr sm_rf (sm_w s_3 (by intro b k hb; first | rfl | exact hb | (simp only [Bool.or_eq_false_iff, Bool.and_eq_false_iff, beq_eq_false_iff_ne, ne_eq, decide_eq_false_iff_not] at hb ⊢; omega)))) (sm_w hs5 (by intro b k hb; first | rfl | exact hb | (simp only [Bool.or_eq_false_iff, Bool.and_eq_false_iff, beq_eq_false_iff_ne, ne_eq, decide_eq_false_iff_not] at hb ⊢; omega))))
    refine j_lv (lv1 := [(2, .int (nI 0)), (0, .ref (ad 0)), (1, .int q)]) [0, 1, 2] rfl ?_
    exact loop5 (61 + 1) 0 _ (by omega) (by omega) sm_rf
  · refine j_if_ne X 15 (by decide) dX7_when_5 (fun c_13 => False.elim (by revert c_13; decide)) (fun c_13 => ?_)
    refine j_aload_n X 0 rfl rfl dX7_when_8 ?_
    refine j_ldc X (v := (-1000000001)) aw_108 dX7_when_9 ?_
    refine j_callVI X (nn := 1) (As := [.int (-1000000001)]) (st := []) (ci := 7) (by decide) (wE_7 _ rfl) rfl aw_117 aw_118 (g_refuse l D y ad M (-1000000001) 1 (by decide) (by decide)) aw_116 aw_119 aw_2 (by decide +kernel) ⟨by decide, by decide⟩ rfl (Nat.le_of_ble_eq_true rfl) ⟨by decide, by decide⟩ dX7_when_11 ?_
    rintro r_ M_15 ⟨rfl, s_14⟩
    exact j_iret X hr hlocks dX7_when_14 (sm_tr sm_rf (sm_w s_14 (by intro b k hb; first | rfl | exact hb | (simp only [Bool.or_eq_false_iff, Bool.and_eq_false_iff, beq_eq_false_iff_ne, ne_eq, decide_eq_false_iff_not] at hb ⊢; omega))))
set_option maxRecDepth 100000 in
set_option maxHeartbeats 4000000 in
theorem g_X7_off (l : Launch) (D : va_G) (y : wY) (ad : Nat → Nat) (M : Mem) (n : Nat) (hn : n ≤ 9) (hm : M 12 3 = nI n) (hB : ∀ q, q < 9 → BoolOK (M (14 + q) 6)) (z2 z7 : Nat) (hT2 : TextOK M 2 z2) (hT7 : TextOK M 7 z7) (nn : Int32) : MI l D y ad yX7_off (Cond.code yX7_off cX7_off 3 (some .int)) 9 M [.ref (ad 0), .int nn] (fun _ M' => sm (fun b _ => b == 6 || b == 11 || b == 78 || (decide (49 ≤ b) && decide (b ≤ 59))) M M') := by
  refine MI_of (by decide) (Nat.le_of_ble_eq_true rfl) ?_
  intro p e s m args below meth c X hr hlocks
  refine j_lv (lv1 := [(0, .ref (ad 0)), (1, .int nn)]) [0, 1] rfl ?_
  refine j_iload_n X 1 rfl rfl dX7_off_0 ?_
  refine j_iconst X (v := 0) (by decide) dX7_off_1 ?_
  refine j_bipush X (v := 60) (by decide) dX7_off_2 ?_
  refine j_callSI X (nn := 3) (As := [.int nn, .int 0, .int 60]) (st := []) aw_110 (g_X7_isWithin l D y ad M nn 0 60 0 60 (by decide) (by decide)) aw_109 aw_111 aw_2 (by decide +kernel) ⟨by decide, by decide⟩ rfl (Nat.le_of_ble_eq_true rfl) ⟨by decide, by decide⟩ dX7_off_4 ?_
  rintro r_ M1_ (⟨rfl, rfl, h_1⟩ | ⟨rfl, rfl, h_1⟩)
  · refine j_if_ne X 17 (by decide) dX7_off_7 (fun c_2 => ?_) (fun c_2 => False.elim (by revert c_2; decide))
    obtain ⟨N, hN, rfl⟩ := nI_oft (x := nn) (n := 60) (by omega) (by omega) (by decide)
    refine j_aload_n X 0 rfl rfl dX7_off_17 ?_
    refine j_callVV X (nn := 0) (As := []) (st := []) (ci := 7) (by decide) (wE_7 _ rfl) rfl aw_534 aw_535 (g_think l D y ad M n (by omega) hm hB) aw_533 aw_536 aw_2 (by decide +kernel) ⟨by decide, by decide⟩ rfl (Nat.le_of_ble_eq_true rfl) ⟨by decide, by decide⟩ dX7_off_18 ?_
    rintro M_4 ⟨s_3, s_3_g, s_3_b⟩
    refine j_aload_n X 0 rfl rfl dX7_off_21 ?_
    refine j_iload_n X 1 rfl rfl dX7_off_22 ?_
    refine j_callVV X (nn := 1) (As := [.int (nI N)]) (st := []) (ci := 7) (by decide) (wE_7 _ rfl) rfl aw_626 aw_627 (g_thinkDaysWithHarm l D y ad M_4 n (by omega) ((s_3_g 3 (by decide) (by decide)).trans hm) z2 z7 (TextOK_keep (P := (fun b _ => b == 6 || b == 11 || b == 78 || (decide (49 ≤ b) && decide (b ≤ 59)))) (sm_tr sm_rf (sm_w s_3 (by intro b k hb; first | rfl | exact hb | (simp only [Bool.or_eq_false_iff, Bool.and_eq_false_iff, beq_eq_false_iff_ne, ne_eq, decide_eq_false_iff_not] at hb ⊢; omega)))) (fun _ => rfl) (fun _ => rfl) (fun _ => rfl) (fun _ => rfl) hT2) (TextOK_keep (P := (fun b _ => b == 6 || b == 11 || b == 78 || (decide (49 ≤ b) && decide (b ≤ 59)))) (sm_tr sm_rf (sm_w s_3 (by intro b k hb; first | rfl | exact hb | (simp only [Bool.or_eq_false_iff, Bool.and_eq_false_iff, beq_eq_false_iff_ne, ne_eq, decide_eq_false_iff_not] at hb ⊢; omega)))) (fun _ => rfl) (fun _ => rfl) (fun _ => rfl) (fun _ => rfl) hT7) N (by omega)) aw_625 aw_628 aw_2 (by decide +kernel) ⟨by decide, by decide⟩ rfl (Nat.le_of_ble_eq_true rfl) ⟨by decide, by decide⟩ dX7_off_23 ?_
    rintro M_6 ⟨s_5, s_5_e⟩
    refine j_aload_n X 0 rfl rfl dX7_off_26 ?_
    refine j_get X (by decide) (wE_7 _ rfl) rfl awF7 2 (by decide) aw_21 rfl (v := .ref (ad 49)) rfl dX7_off_27 ?_
    refine j_getN X (by decide) (wE_0 _ rfl) rfl awF0 7 (by decide) (List.mem_of_getElem? (i := 19) rfl) rfl (v := .int (M_6 49 7)) rfl dX7_off_30 ?_
    refine j_istore_n X [(2, .int (M_6 49 7)), (0, .ref (ad 0)), (1, .int (nI N))] rfl (by decide) rfl dX7_off_33 ?_
    refine j_aload_n X 1 rfl rfl dX7_off_34 ?_
    refine j_callVV X (nn := 0) (As := []) (st := []) (ci := 7) (by decide) (wE_7 _ rfl) rfl aw_534 aw_535 (g_think l D y ad M_6 n (by omega) ((s_5 12 3 rfl).trans ((s_3 12 3 rfl).trans hm)) (bool_keep (P := (fun b _ => b == 6 || b == 11 || b == 78 || (decide (49 ≤ b) && decide (b ≤ 59)))) (sm_tr (sm_tr sm_rf (sm_w s_3 (by intro b k hb; first | rfl | exact hb | (simp only [Bool.or_eq_false_iff, Bool.and_eq_false_iff, beq_eq_false_iff_ne, ne_eq, decide_eq_false_iff_not] at hb ⊢; omega)))) (sm_w s_5 (by intro b k hb; first | rfl | exact hb | (simp only [Bool.or_eq_false_iff, Bool.and_eq_false_iff, beq_eq_false_iff_ne, ne_eq, decide_eq_false_iff_not] at hb ⊢; omega)))) (fun q hq => by first | rfl | (simp; done) | (simp; omega)) hB)) aw_533 aw_536 aw_2 (by decide +kernel) ⟨by decide, by decide⟩ rfl (Nat.le_of_ble_eq_true rfl) ⟨by decide, by decide⟩ dX7_off_35 ?_
    rintro M_8 ⟨s_7, s_7_g, s_7_b⟩
    rcases N with _ | N
    · refine j_iload_n X 2 rfl rfl dX7_off_38 ?_
      refine j_if_le X 57 (by decide) dX7_off_39 (fun c_9 => ?_) (fun c_9 => False.elim (by revert c_9; decide))
      refine j_aload_n X 1 rfl rfl dX7_off_57 ?_
      refine j_get X (by decide) (wE_7 _ rfl) rfl awF7 2 (by decide) aw_21 rfl (v := .ref (ad 49)) rfl dX7_off_58 ?_
      refine j_getN X (by decide) (wE_0 _ rfl) rfl awF0 7 (by decide) (List.mem_of_getElem? (i := 19) rfl) rfl (v := .int (M_8 49 7)) rfl dX7_off_61 ?_
      refine j_eqi (v := M_6 12 7) ((s_7_g 7 (by decide) (by decide)).trans rfl) ?_
      refine j_iload_n X 0 rfl rfl dX7_off_64 ?_
      refine j_isub X dX7_off_65 ?_
      exact j_iret X hr hlocks dX7_off_66 (sm_tr (sm_tr (sm_tr sm_rf (sm_w s_3 (by intro b k hb; first | rfl | exact hb | (simp only [Bool.or_eq_false_iff, Bool.and_eq_false_iff, beq_eq_false_iff_ne, ne_eq, decide_eq_false_iff_not] at hb ⊢; omega)))) (sm_w s_5 (by intro b k hb; first | rfl | exact hb | (simp only [Bool.or_eq_false_iff, Bool.and_eq_false_iff, beq_eq_false_iff_ne, ne_eq, decide_eq_false_iff_not] at hb ⊢; omega)))) (sm_w s_7 (by intro b k hb; first | rfl | exact hb | (simp only [Bool.or_eq_false_iff, Bool.and_eq_false_iff, beq_eq_false_iff_ne, ne_eq, decide_eq_false_iff_not] at hb ⊢; omega))))
    · refine j_iload_n X 2 rfl rfl dX7_off_38 ?_
      refine j_if_le X 57 (by decide) dX7_off_39 (fun c_10 => False.elim (nI_nle (by omega) (by omega) c_10)) (fun c_10 => ?_)
      refine j_aload_n X 1 rfl rfl dX7_off_42 ?_
      refine j_get X (by decide) (wE_7 _ rfl) rfl awF7 2 (by decide) aw_21 rfl (v := .ref (ad 49)) rfl dX7_off_43 ?_
      refine j_iconst X (v := 1) (by decide) dX7_off_46 ?_
      refine j_callVNV X (nn := 1) (As := [.int 1]) (st := []) (ci := 0) (by decide) (wE_0 _ rfl) rfl aw_450 aw_451 (g_restDay_49 l D y ad M_8 n (by omega) ((s_7_g 3 (by decide) (by decide)).trans ((s_5 12 3 rfl).trans ((s_3 12 3 rfl).trans hm))) z2 z7 (TextOK_keep (P := (fun b _ => b == 6 || b == 11 || b == 78 || (decide (49 ≤ b) && decide (b ≤ 59)))) (sm_tr (sm_tr (sm_tr sm_rf (sm_w s_3 (by intro b k hb; first | rfl | exact hb | (simp only [Bool.or_eq_false_iff, Bool.and_eq_false_iff, beq_eq_false_iff_ne, ne_eq, decide_eq_false_iff_not] at hb ⊢; omega)))) (sm_w s_5 (by intro b k hb; first | rfl | exact hb | (simp only [Bool.or_eq_false_iff, Bool.and_eq_false_iff, beq_eq_false_iff_ne, ne_eq, decide_eq_false_iff_not] at hb ⊢; omega)))) (sm_w s_7 (by intro b k hb; first | rfl | exact hb | (simp only [Bool.or_eq_false_iff, Bool.and_eq_false_iff, beq_eq_false_iff_ne, ne_eq, decide_eq_false_iff_not] at hb ⊢; omega)))) (fun _ => rfl) (fun _ => rfl) (fun _ => rfl) (fun _ => rfl) hT2) (TextOK_keep (P := (fun b _ => b == 6 || b == 11 || b == 78 || (decide (49 ≤ b) && decide (b ≤ 59)))) (sm_tr (sm_tr (sm_tr sm_rf (sm_w s_3 (by intro b k hb; first | rfl | exact hb | (simp only [Bool.or_eq_false_iff, Bool.and_eq_false_iff, beq_eq_false_iff_ne, ne_eq, decide_eq_false_iff_not] at hb ⊢; omega)))) (sm_w s_5 (by intro b k hb; first | rfl | exact hb | (simp only [Bool.or_eq_false_iff, Bool.and_eq_false_iff, beq_eq_false_iff_ne, ne_eq, decide_eq_false_iff_not] at hb ⊢; omega)))) (sm_w s_7 (by intro b k hb; first | rfl | exact hb | (simp only [Bool.or_eq_false_iff, Bool.and_eq_false_iff, beq_eq_false_iff_ne, ne_eq, decide_eq_false_iff_not] at hb ⊢; omega)))) (fun _ => rfl) (fun _ => rfl) (fun _ => rfl) (fun _ => rfl) hT7) 1) (List.mem_of_getElem? (i := 40) rfl) aw_452 aw_20 (by decide +kernel) ⟨by decide, by decide⟩ rfl (Nat.le_of_ble_eq_true rfl) ⟨by decide, by decide⟩ dX7_off_47 ?_
      rintro M_12 ⟨s_11, s_11_e⟩
      refine j_aload_n X 1 rfl rfl dX7_off_50 ?_
      refine j_iload_n X 2 rfl rfl dX7_off_51 ?_
      refine j_iconst X (v := 1) (by decide) dX7_off_52 ?_
      refine j_isub X dX7_off_53 ?_
      refine j_eqi (v := nI N) (nI_pred N) ?_
      refine j_callVV X (nn := 1) (As := [.int (nI N)]) (st := []) (ci := 7) (by decide) (wE_7 _ rfl) rfl aw_626 aw_627 (g_thinkDaysWithHarm l D y ad M_12 n (by omega) ((s_11 49 3 rfl).trans ((s_7_g 3 (by decide) (by decide)).trans ((s_5 12 3 rfl).trans ((s_3 12 3 rfl).trans hm)))) z2 z7 (TextOK_keep (P := (fun b _ => b == 6 || b == 11 || b == 78 || (decide (49 ≤ b) && decide (b ≤ 59)))) (sm_tr (sm_tr (sm_tr (sm_tr sm_rf (sm_w s_3 (by intro b k hb; first | rfl | exact hb | (simp only [Bool.or_eq_false_iff, Bool.and_eq_false_iff, beq_eq_false_iff_ne, ne_eq, decide_eq_false_iff_not] at hb ⊢; omega)))) (sm_w s_5 (by intro b k hb; first | rfl | exact hb | (simp only [Bool.or_eq_false_iff, Bool.and_eq_false_iff, beq_eq_false_iff_ne, ne_eq, decide_eq_false_iff_not] at hb ⊢; omega)))) (sm_w s_7 (by intro b k hb; first | rfl | exact hb | (simp only [Bool.or_eq_false_iff, Bool.and_eq_false_iff, beq_eq_false_iff_ne, ne_eq, decide_eq_false_iff_not] at hb ⊢; omega)))) (sm_w s_11 (by intro b k hb; first | rfl | exact hb | (simp only [Bool.or_eq_false_iff, Bool.and_eq_false_iff, beq_eq_false_iff_ne, ne_eq, decide_eq_false_iff_not] at hb ⊢; omega)))) (fun _ => rfl) (fun _ => rfl) (fun _ => rfl) (fun _ => rfl) hT2) (TextOK_keep (P := (fun b _ => b == 6 || b == 11 || b == 78 || (decide (49 ≤ b) && decide (b ≤ 59)))) (sm_tr (sm_tr (sm_tr (sm_tr sm_rf (sm_w s_3 (by intro b k hb; first | rfl | exact hb | (simp only [Bool.or_eq_false_iff, Bool.and_eq_false_iff, beq_eq_false_iff_ne, ne_eq, decide_eq_false_iff_not] at hb ⊢; omega)))) (sm_w s_5 (by intro b k hb; first | rfl | exact hb | (simp only [Bool.or_eq_false_iff, Bool.and_eq_false_iff, beq_eq_false_iff_ne, ne_eq, decide_eq_false_iff_not] at hb ⊢; omega)))) (sm_w s_7 (by intro b k hb; first | rfl | exact hb | (simp only [Bool.or_eq_false_iff, Bool.and_eq_false_iff, beq_eq_false_iff_ne, ne_eq, decide_eq_false_iff_not] at hb ⊢; omega)))) (sm_w s_11 (by intro b k hb; first | rfl | exact hb | (simp only [Bool.or_eq_false_iff, Bool.and_eq_false_iff, beq_eq_false_iff_ne, ne_eq, decide_eq_false_iff_not] at hb ⊢; omega)))) (fun _ => rfl) (fun _ => rfl) (fun _ => rfl) (fun _ => rfl) hT7) N (by omega)) aw_625 aw_628 aw_2 (by decide +kernel) ⟨by decide, by decide⟩ rfl (Nat.le_of_ble_eq_true rfl) ⟨by decide, by decide⟩ dX7_off_54 ?_
      rintro M_14 ⟨s_13, s_13_e⟩
      refine j_aload_n X 1 rfl rfl dX7_off_57 ?_
      refine j_get X (by decide) (wE_7 _ rfl) rfl awF7 2 (by decide) aw_21 rfl (v := .ref (ad 49)) rfl dX7_off_58 ?_
      refine j_getN X (by decide) (wE_0 _ rfl) rfl awF0 7 (by decide) (List.mem_of_getElem? (i := 19) rfl) rfl (v := .int (M_14 49 7)) rfl dX7_off_61 ?_
      refine j_iload_n X 0 rfl rfl dX7_off_64 ?_
      refine j_isub X dX7_off_65 ?_
      exact j_iret X hr hlocks dX7_off_66 (sm_tr (sm_tr (sm_tr (sm_tr (sm_tr sm_rf (sm_w s_3 (by intro b k hb; first | rfl | exact hb | (simp only [Bool.or_eq_false_iff, Bool.and_eq_false_iff, beq_eq_false_iff_ne, ne_eq, decide_eq_false_iff_not] at hb ⊢; omega)))) (sm_w s_5 (by intro b k hb; first | rfl | exact hb | (simp only [Bool.or_eq_false_iff, Bool.and_eq_false_iff, beq_eq_false_iff_ne, ne_eq, decide_eq_false_iff_not] at hb ⊢; omega)))) (sm_w s_7 (by intro b k hb; first | rfl | exact hb | (simp only [Bool.or_eq_false_iff, Bool.and_eq_false_iff, beq_eq_false_iff_ne, ne_eq, decide_eq_false_iff_not] at hb ⊢; omega)))) (sm_w s_11 (by intro b k hb; first | rfl | exact hb | (simp only [Bool.or_eq_false_iff, Bool.and_eq_false_iff, beq_eq_false_iff_ne, ne_eq, decide_eq_false_iff_not] at hb ⊢; omega)))) (sm_w s_13 (by intro b k hb; first | rfl | exact hb | (simp only [Bool.or_eq_false_iff, Bool.and_eq_false_iff, beq_eq_false_iff_ne, ne_eq, decide_eq_false_iff_not] at hb ⊢; omega))))
  · refine j_if_ne X 17 (by decide) dX7_off_7 (fun c_15 => False.elim (by revert c_15; decide)) (fun c_15 => ?_)
    refine j_aload_n X 0 rfl rfl dX7_off_10 ?_
    refine j_ldc X (v := (-1000000001)) aw_108 dX7_off_11 ?_
    refine j_callVI X (nn := 1) (As := [.int (-1000000001)]) (st := []) (ci := 7) (by decide) (wE_7 _ rfl) rfl aw_117 aw_118 (g_refuse l D y ad M (-1000000001) 1 (by decide) (by decide)) aw_116 aw_119 aw_2 (by decide +kernel) ⟨by decide, by decide⟩ rfl (Nat.le_of_ble_eq_true rfl) ⟨by decide, by decide⟩ dX7_off_13 ?_
    rintro r_ M_17 ⟨rfl, s_16⟩
    exact j_iret X hr hlocks dX7_off_16 (sm_tr sm_rf (sm_w s_16 (by intro b k hb; first | rfl | exact hb | (simp only [Bool.or_eq_false_iff, Bool.and_eq_false_iff, beq_eq_false_iff_ne, ne_eq, decide_eq_false_iff_not] at hb ⊢; omega))))
end
section
theorem dX7_sharp_0 : decode cX7_sharp 0 = .ok (.aload_n 0, 1) := by decide +kernel
theorem dX7_sharp_1 : decode cX7_sharp 1 = .ok (.iload_n 1, 1) := by decide +kernel
theorem dX7_sharp_2 : decode cX7_sharp 2 = .ok (.invokevirtual 117, 3) := by decide +kernel
theorem dX7_sharp_5 : decode cX7_sharp 5 = .ok (.ifCond .eq 13, 3) := by decide +kernel
theorem dX7_sharp_8 : decode cX7_sharp 8 = .ok (.iload_n 2, 1) := by decide +kernel
theorem dX7_sharp_9 : decode cX7_sharp 9 = .ok (.iconst 1, 1) := by decide +kernel
theorem dX7_sharp_10 : decode cX7_sharp 10 = .ok (.bipush 60, 2) := by decide +kernel
theorem dX7_sharp_12 : decode cX7_sharp 12 = .ok (.invokestatic 60, 3) := by decide +kernel
theorem dX7_sharp_15 : decode cX7_sharp 15 = .ok (.ifCond .ne 10, 3) := by decide +kernel
theorem dX7_sharp_25 : decode cX7_sharp 25 = .ok (.iconst 0, 1) := by decide +kernel
theorem dX7_sharp_26 : decode cX7_sharp 26 = .ok (.istore_n 3, 1) := by decide +kernel
theorem dX7_sharp_27 : decode cX7_sharp 27 = .ok (.iload_n 3, 1) := by decide +kernel
theorem dX7_sharp_28 : decode cX7_sharp 28 = .ok (.bipush 99, 2) := by decide +kernel
theorem dX7_sharp_30 : decode cX7_sharp 30 = .ok (.if_icmp .gt 37, 3) := by decide +kernel
theorem dX7_sharp_67 : decode cX7_sharp 67 = .ok (.aload_n 0, 1) := by decide +kernel
theorem dX7_sharp_68 : decode cX7_sharp 68 = .ok (.ldc 197, 2) := by decide +kernel
theorem dX7_sharp_70 : decode cX7_sharp 70 = .ok (.invokevirtual 69, 3) := by decide +kernel
theorem dX7_sharp_73 : decode cX7_sharp 73 = .ok (.ireturn, 1) := by decide +kernel
theorem dX7_sharp_33 : decode cX7_sharp 33 = .ok (.aload_n 0, 1) := by decide +kernel
theorem dX7_sharp_34 : decode cX7_sharp 34 = .ok (.invokevirtual 191, 3) := by decide +kernel
theorem dX7_sharp_37 : decode cX7_sharp 37 = .ok (.aload_n 0, 1) := by decide +kernel
theorem dX7_sharp_38 : decode cX7_sharp 38 = .ok (.getfield 31, 3) := by decide +kernel
theorem dX7_sharp_41 : decode cX7_sharp 41 = .ok (.getfield 91, 3) := by decide +kernel
theorem dX7_sharp_44 : decode cX7_sharp 44 = .ok (.iload_n 1, 1) := by decide +kernel
theorem dX7_sharp_45 : decode cX7_sharp 45 = .ok (.aaload, 1) := by decide +kernel
theorem dX7_sharp_46 : decode cX7_sharp 46 = .ok (.iload_n 3, 1) := by decide +kernel
theorem dX7_sharp_47 : decode cX7_sharp 47 = .ok (.putfield 104, 3) := by decide +kernel
theorem dX7_sharp_50 : decode cX7_sharp 50 = .ok (.aload_n 0, 1) := by decide +kernel
theorem dX7_sharp_51 : decode cX7_sharp 51 = .ok (.iload_n 1, 1) := by decide +kernel
theorem dX7_sharp_52 : decode cX7_sharp 52 = .ok (.iload_n 2, 1) := by decide +kernel
theorem dX7_sharp_53 : decode cX7_sharp 53 = .ok (.invokevirtual 215, 3) := by decide +kernel
theorem dX7_sharp_56 : decode cX7_sharp 56 = .ok (.ifCond .eq 5, 3) := by decide +kernel
theorem dX7_sharp_61 : decode cX7_sharp 61 = .ok (.iinc 3 1, 3) := by decide +kernel
theorem dX7_sharp_64 : decode cX7_sharp 64 = .ok (.goto (-37), 3) := by decide +kernel
theorem dX7_sharp_59 : decode cX7_sharp 59 = .ok (.iload_n 3, 1) := by decide +kernel
theorem dX7_sharp_60 : decode cX7_sharp 60 = .ok (.ireturn, 1) := by decide +kernel
theorem dX7_sharp_18 : decode cX7_sharp 18 = .ok (.aload_n 0, 1) := by decide +kernel
theorem dX7_sharp_19 : decode cX7_sharp 19 = .ok (.ldc 68, 2) := by decide +kernel
theorem dX7_sharp_21 : decode cX7_sharp 21 = .ok (.invokevirtual 69, 3) := by decide +kernel
theorem dX7_sharp_24 : decode cX7_sharp 24 = .ok (.ireturn, 1) := by decide +kernel
theorem dX7_greatestDivisor_0 : decode cX7_greatestDivisor 0 = .ok (.iload_n 1, 1) := by decide +kernel
theorem dX7_greatestDivisor_1 : decode cX7_greatestDivisor 1 = .ok (.istore_n 2, 1) := by decide +kernel
theorem dX7_greatestDivisor_2 : decode cX7_greatestDivisor 2 = .ok (.iload_n 2, 1) := by decide +kernel
theorem dX7_greatestDivisor_3 : decode cX7_greatestDivisor 3 = .ok (.iconst 1, 1) := by decide +kernel
theorem dX7_greatestDivisor_4 : decode cX7_greatestDivisor 4 = .ok (.if_icmp .le 23, 3) := by decide +kernel
theorem dX7_greatestDivisor_27 : decode cX7_greatestDivisor 27 = .ok (.iconst 1, 1) := by decide +kernel
theorem dX7_greatestDivisor_28 : decode cX7_greatestDivisor 28 = .ok (.ireturn, 1) := by decide +kernel
theorem dX7_greatestDivisor_7 : decode cX7_greatestDivisor 7 = .ok (.iload_n 0, 1) := by decide +kernel
theorem dX7_greatestDivisor_8 : decode cX7_greatestDivisor 8 = .ok (.iload_n 2, 1) := by decide +kernel
theorem dX7_greatestDivisor_9 : decode cX7_greatestDivisor 9 = .ok (.irem, 1) := by decide +kernel
theorem dX7_greatestDivisor_10 : decode cX7_greatestDivisor 10 = .ok (.ifCond .ne 11, 3) := by decide +kernel
theorem dX7_greatestDivisor_21 : decode cX7_greatestDivisor 21 = .ok (.iinc 2 (-1), 3) := by decide +kernel
theorem dX7_greatestDivisor_24 : decode cX7_greatestDivisor 24 = .ok (.goto (-22), 3) := by decide +kernel
theorem dX7_greatestDivisor_13 : decode cX7_greatestDivisor 13 = .ok (.iload_n 1, 1) := by decide +kernel
theorem dX7_greatestDivisor_14 : decode cX7_greatestDivisor 14 = .ok (.iload_n 2, 1) := by decide +kernel
theorem dX7_greatestDivisor_15 : decode cX7_greatestDivisor 15 = .ok (.irem, 1) := by decide +kernel
theorem dX7_greatestDivisor_16 : decode cX7_greatestDivisor 16 = .ok (.ifCond .ne 5, 3) := by decide +kernel
theorem dX7_greatestDivisor_19 : decode cX7_greatestDivisor 19 = .ok (.iload_n 2, 1) := by decide +kernel
theorem dX7_greatestDivisor_20 : decode cX7_greatestDivisor 20 = .ok (.ireturn, 1) := by decide +kernel
theorem dX7_odds_0 : decode cX7_odds 0 = .ok (.aload_n 0, 1) := by decide +kernel
theorem dX7_odds_1 : decode cX7_odds 1 = .ok (.iload_n 1, 1) := by decide +kernel
theorem dX7_odds_2 : decode cX7_odds 2 = .ok (.invokevirtual 117, 3) := by decide +kernel
theorem dX7_odds_5 : decode cX7_odds 5 = .ok (.ifCond .eq 22, 3) := by decide +kernel
theorem dX7_odds_8 : decode cX7_odds 8 = .ok (.iload_n 2, 1) := by decide +kernel
theorem dX7_odds_9 : decode cX7_odds 9 = .ok (.iconst 0, 1) := by decide +kernel
theorem dX7_odds_10 : decode cX7_odds 10 = .ok (.bipush 60, 2) := by decide +kernel
theorem dX7_odds_12 : decode cX7_odds 12 = .ok (.invokestatic 60, 3) := by decide +kernel
theorem dX7_odds_15 : decode cX7_odds 15 = .ok (.ifCond .eq 12, 3) := by decide +kernel
theorem dX7_odds_18 : decode cX7_odds 18 = .ok (.iload_n 3, 1) := by decide +kernel
theorem dX7_odds_19 : decode cX7_odds 19 = .ok (.iconst 0, 1) := by decide +kernel
theorem dX7_odds_20 : decode cX7_odds 20 = .ok (.iconst 1, 1) := by decide +kernel
theorem dX7_odds_21 : decode cX7_odds 21 = .ok (.invokestatic 60, 3) := by decide +kernel
theorem dX7_odds_24 : decode cX7_odds 24 = .ok (.ifCond .ne 10, 3) := by decide +kernel
theorem dX7_odds_34 : decode cX7_odds 34 = .ok (.iconst 0, 1) := by decide +kernel
theorem dX7_odds_35 : decode cX7_odds 35 = .ok (.istore 4, 2) := by decide +kernel
theorem dX7_odds_37 : decode cX7_odds 37 = .ok (.iconst 0, 1) := by decide +kernel
theorem dX7_odds_38 : decode cX7_odds 38 = .ok (.istore 5, 2) := by decide +kernel
theorem dX7_odds_40 : decode cX7_odds 40 = .ok (.iload 5, 2) := by decide +kernel
theorem dX7_odds_42 : decode cX7_odds 42 = .ok (.bipush 10, 2) := by decide +kernel
theorem dX7_odds_44 : decode cX7_odds 44 = .ok (.if_icmp .ge 34, 3) := by decide +kernel
theorem dX7_odds_78 : decode cX7_odds 78 = .ok (.iload 4, 2) := by decide +kernel
theorem dX7_odds_80 : decode cX7_odds 80 = .ok (.bipush 10, 2) := by decide +kernel
theorem dX7_odds_82 : decode cX7_odds 82 = .ok (.invokestatic 252, 3) := by decide +kernel
theorem dX7_odds_85 : decode cX7_odds 85 = .ok (.istore 5, 2) := by decide +kernel
theorem dX7_odds_87 : decode cX7_odds 87 = .ok (.iload_n 3, 1) := by decide +kernel
theorem dX7_odds_88 : decode cX7_odds 88 = .ok (.ifCond .ne 11, 3) := by decide +kernel
theorem dX7_odds_99 : decode cX7_odds 99 = .ok (.bipush 10, 2) := by decide +kernel
theorem dX7_odds_101 : decode cX7_odds 101 = .ok (.iload 5, 2) := by decide +kernel
theorem dX7_odds_103 : decode cX7_odds 103 = .ok (.idiv, 1) := by decide +kernel
theorem dX7_odds_104 : decode cX7_odds 104 = .ok (.ireturn, 1) := by decide +kernel
theorem dX7_odds_91 : decode cX7_odds 91 = .ok (.iload 4, 2) := by decide +kernel
theorem dX7_odds_93 : decode cX7_odds 93 = .ok (.iload 5, 2) := by decide +kernel
theorem dX7_odds_95 : decode cX7_odds 95 = .ok (.idiv, 1) := by decide +kernel
theorem dX7_odds_96 : decode cX7_odds 96 = .ok (.goto 8, 3) := by decide +kernel
theorem dX7_odds_47 : decode cX7_odds 47 = .ok (.aload_n 0, 1) := by decide +kernel
theorem dX7_odds_48 : decode cX7_odds 48 = .ok (.invokevirtual 191, 3) := by decide +kernel
theorem dX7_odds_51 : decode cX7_odds 51 = .ok (.aload_n 0, 1) := by decide +kernel
theorem dX7_odds_52 : decode cX7_odds 52 = .ok (.getfield 31, 3) := by decide +kernel
theorem dX7_odds_55 : decode cX7_odds 55 = .ok (.iload 5, 2) := by decide +kernel
theorem dX7_odds_57 : decode cX7_odds 57 = .ok (.putfield 201, 3) := by decide +kernel
theorem dX7_odds_60 : decode cX7_odds 60 = .ok (.aload_n 0, 1) := by decide +kernel
theorem dX7_odds_61 : decode cX7_odds 61 = .ok (.iload_n 1, 1) := by decide +kernel
theorem dX7_odds_62 : decode cX7_odds 62 = .ok (.iload_n 2, 1) := by decide +kernel
theorem dX7_odds_63 : decode cX7_odds 63 = .ok (.invokevirtual 215, 3) := by decide +kernel
theorem dX7_odds_66 : decode cX7_odds 66 = .ok (.ifCond .eq 6, 3) := by decide +kernel
theorem dX7_odds_72 : decode cX7_odds 72 = .ok (.iinc 5 1, 3) := by decide +kernel
theorem dX7_odds_75 : decode cX7_odds 75 = .ok (.goto (-35), 3) := by decide +kernel
theorem dX7_odds_69 : decode cX7_odds 69 = .ok (.iinc 4 1, 3) := by decide +kernel
theorem dX7_odds_27 : decode cX7_odds 27 = .ok (.aload_n 0, 1) := by decide +kernel
theorem dX7_odds_28 : decode cX7_odds 28 = .ok (.ldc 68, 2) := by decide +kernel
theorem dX7_odds_30 : decode cX7_odds 30 = .ok (.invokevirtual 69, 3) := by decide +kernel
theorem dX7_odds_33 : decode cX7_odds 33 = .ok (.ireturn, 1) := by decide +kernel
theorem nI_dec (i : Nat) : nI (i + 1) + Int32.ofInt (-1) = nI i := by rw [← nI_1 i, Int32.add_assoc]; exact Int32.add_zero _
set_option maxRecDepth 100000 in
set_option maxHeartbeats 4000000 in
theorem g_X7_sharp (l : Launch) (D : va_G) (y : wY) (ad : Nat → Nat) (M : Mem) (n : Nat) (hn : n ≤ 9) (hm : M 12 3 = nI n) (hB : ∀ q, q < 9 → BoolOK (M (14 + q) 6)) (z2 z7 : Nat) (hT2 : TextOK M 2 z2) (hT7 : TextOK M 7 z7) (q nn : Int32) : MI l D y ad yX7_sharp (Cond.code yX7_sharp cX7_sharp 4 (some .int)) 9 M [.ref (ad 0), .int q, .int nn] (fun _ M' => sm (fun b _ => b == 6 || b == 11 || b == 78 || (decide (49 ≤ b) && decide (b ≤ 59))) M M') := by
  refine MI_of (by decide) (Nat.le_of_ble_eq_true rfl) ?_
  intro p e s m args below meth c X hr hlocks
  refine j_lv (lv1 := [(0, .ref (ad 0)), (1, .int q), (2, .int nn)]) [0, 1, 2] rfl ?_
  refine j_aload_n X 0 rfl rfl dX7_sharp_0 ?_
  refine j_iload_n X 1 rfl rfl dX7_sharp_1 ?_
  refine j_callVI X (nn := 1) (As := [.int q]) (st := []) (ci := 7) (by decide) (wE_7 _ rfl) rfl aw_191 aw_192 (g_isQuarrel l D y ad M n (by omega) hm q) aw_190 aw_193 aw_2 (by decide +kernel) ⟨by decide, by decide⟩ rfl (Nat.le_of_ble_eq_true rfl) ⟨by decide, by decide⟩ dX7_sharp_2 ?_
  rintro r_ M1_ (⟨rfl, rfl, h_1⟩ | ⟨rfl, rfl⟩)
  · refine j_if_eq X 18 (by decide) dX7_sharp_5 (fun c_2 => False.elim (by revert c_2; decide)) (fun c_2 => ?_)
    refine j_iload_n X 2 rfl rfl dX7_sharp_8 ?_
    refine j_iconst X (v := 1) (by decide) dX7_sharp_9 ?_
    refine j_bipush X (v := 60) (by decide) dX7_sharp_10 ?_
    refine j_callSI X (nn := 3) (As := [.int nn, .int 1, .int 60]) (st := []) aw_110 (g_X7_isWithin l D y ad M nn 1 60 1 60 (by decide) (by decide)) aw_109 aw_111 aw_2 (by decide +kernel) ⟨by decide, by decide⟩ rfl (Nat.le_of_ble_eq_true rfl) ⟨by decide, by decide⟩ dX7_sharp_12 ?_
    rintro r_ M1_ (⟨rfl, rfl, h_3⟩ | ⟨rfl, rfl, h_3⟩)
    · refine j_if_ne X 25 (by decide) dX7_sharp_15 (fun c_4 => ?_) (fun c_4 => False.elim (by revert c_4; decide))
      obtain ⟨Q, hQ, rfl⟩ := nI_oft (x := q) (n := 8) (by omega) (by omega) (by decide)
      have eQ := nI_toInt (n := Q) (by omega)
      have lQ : Q < n := by omega
      obtain ⟨N, hN, rfl⟩ := nI_oft (x := nn) (n := 60) (by omega) (by omega) (by decide)
      refine j_iconst X (v := 0) (by decide) dX7_sharp_25 ?_
      refine j_istore_n X [(3, .int 0), (0, .ref (ad 0)), (1, .int (nI Q)), (2, .int (nI N))] rfl (by decide) rfl dX7_sharp_26 ?_
      have loop5 : ∀ (n_5 i_5 : Nat) (M5 : Mem), i_5 ≤ 100 → 100 - i_5 < n_5 → sm (fun b _ => b == 6 || b == 11 || b == 78 || (decide (49 ≤ b) && decide (b ≤ 59))) M M5 → J p l e (rmN 9) s m args below meth c 0 0 (QI (fun _ M' => sm (fun b _ => b == 6 || b == 11 || b == 78 || (decide (49 ≤ b) && decide (b ≤ 59))) M M') D y ad M s args below) D y ad (va_A (PL y ad M) s.heap.size) 4 M5 27 [(3, .int (nI i_5)), (0, .ref (ad 0)), (1, .int (nI Q)), (2, .int (nI N))] [] := by
        intro n_5
        induction n_5 with
        | zero => intro i_5 M5 h1 h2; exact absurd h2 (by omega)
        | succ n_5 ih5 =>
          intro i_5 M5 h1i_5 h2i_5 hs5
          refine j_iload_n X 0 rfl rfl dX7_sharp_27 ?_
          refine j_bipush X (v := 99) (by decide) dX7_sharp_28 ?_
          refine j_icmp_gt X 67 (by decide) dX7_sharp_30 (fun c_6 => ?_) (fun c_6 => ?_)
          · refine j_aload_n X 1 rfl rfl dX7_sharp_67 ?_
            refine j_ldc X (v := (-1000000002)) aw_560 dX7_sharp_68 ?_
            refine j_callVI X (nn := 1) (As := [.int (-1000000002)]) (st := []) (ci := 7) (by decide) (wE_7 _ rfl) rfl aw_117 aw_118 (g_refuse l D y ad M5 (-1000000002) 2 (by decide) (by decide)) aw_116 aw_119 aw_2 (by decide +kernel) ⟨by decide, by decide⟩ rfl (Nat.le_of_ble_eq_true rfl) ⟨by decide, by decide⟩ dX7_sharp_70 ?_
            rintro r_ M_8 ⟨rfl, s_7⟩
            exact j_iret X hr hlocks dX7_sharp_73 (sm_tr (sm_tr sm_rf (sm_w hs5 (by intro b k hb; first | rfl | exact hb | (simp only [Bool.or_eq_false_iff, Bool.and_eq_false_iff, beq_eq_false_iff_ne, ne_eq, decide_eq_false_iff_not] at hb ⊢; omega)))) (sm_w s_7 (by intro b k hb; first | rfl | exact hb | (simp only [Bool.or_eq_false_iff, Bool.and_eq_false_iff, beq_eq_false_iff_ne, ne_eq, decide_eq_false_iff_not] at hb ⊢; omega))))
          · have c_6 : i_5 < 100 := by
              rcases Nat.lt_or_ge i_5 (100) with g | g
              · exact g
              · exact absurd (show nI 99 < nI i_5 from nI_lt (by omega) (by omega)) c_6
            refine j_aload_n X 1 rfl rfl dX7_sharp_33 ?_
            refine j_callVV X (nn := 0) (As := []) (st := []) (ci := 7) (by decide) (wE_7 _ rfl) rfl aw_534 aw_535 (g_think l D y ad M5 n (by omega) ((hs5 12 3 rfl).trans hm) (bool_keep (P := (fun b _ => b == 6 || b == 11 || b == 78 || (decide (49 ≤ b) && decide (b ≤ 59)))) (sm_tr sm_rf (sm_w hs5 (by intro b k hb; first | rfl | exact hb | (simp only [Bool.or_eq_false_iff, Bool.and_eq_false_iff, beq_eq_false_iff_ne, ne_eq, decide_eq_false_iff_not] at hb ⊢; omega)))) (fun q hq => by first | rfl | (simp; done) | (simp; omega)) hB)) aw_533 aw_536 aw_2 (by decide +kernel) ⟨by decide, by decide⟩ rfl (Nat.le_of_ble_eq_true rfl) ⟨by decide, by decide⟩ dX7_sharp_34 ?_
            rintro M_10 ⟨s_9, s_9_g, s_9_b⟩
            refine j_aload_n X 1 rfl rfl dX7_sharp_37 ?_
            refine j_get X (by decide) (wE_7 _ rfl) rfl awF7 2 (by decide) aw_21 rfl (v := .ref (ad 49)) rfl dX7_sharp_38 ?_
            refine j_getN X (by decide) (wE_0 _ rfl) rfl awF0 2 (by decide) (List.mem_of_getElem? (i := 14) rfl) rfl (v := .ref (ad 50)) rfl dX7_sharp_41 ?_
            refine j_iload_n X 2 rfl rfl dX7_sharp_44 ?_
            refine j_aald10 X (by decide) rfl (show vp_in (nI Q) 9 from vp_in_nI (by omega) (by decide)) dX7_sharp_45 ?_
            refine j_eqr (v := 51 + Q) (by rw [nI_clamp (by omega)]; exact rf_one49 (by omega)) ?_
            refine j_iload_n X 0 rfl rfl dX7_sharp_46 ?_
            refine j_putN X (up M_10 (51 + Q) 3 (nI i_5)) up_o (by omega) (wE_1 _ (kd_one49 (by omega))) rfl awF1 3 (by decide) (wP_1_3 _ _ (kd_one49 (by omega))) tyX1 tyX1_ok nmX1 rfl (ty := .int) (by decide +kernel) rfl rfl (Nat.le_of_ble_eq_true rfl) (List.mem_of_getElem? (i := 6) rfl) rfl dX7_sharp_47 ?_
            refine j_aload_n X 1 rfl rfl dX7_sharp_50 ?_
            refine j_iload_n X 2 rfl rfl dX7_sharp_51 ?_
            refine j_iload_n X 3 rfl rfl dX7_sharp_52 ?_
            refine j_callVI X (nn := 2) (As := [.int (nI Q), .int (nI N)]) (st := []) (ci := 7) (by decide) (wE_7 _ rfl) rfl aw_610 aw_611 (g_endsInThought l D y ad (up M_10 (51 + Q) 3 (nI i_5)) n (by omega) ((up_cell (by omega)).trans ((s_9_g 3 (by decide) (by decide)).trans ((hs5 12 3 rfl).trans hm))) z2 z7 (TextOK_keep (P := (fun b _ => b == 6 || b == 11 || b == 78 || (decide (49 ≤ b) && decide (b ≤ 59)))) (sm_up (sm_tr (sm_tr sm_rf (sm_w hs5 (by intro b k hb; first | rfl | exact hb | (simp only [Bool.or_eq_false_iff, Bool.and_eq_false_iff, beq_eq_false_iff_ne, ne_eq, decide_eq_false_iff_not] at hb ⊢; omega)))) (sm_w s_9 (by intro b k hb; first | rfl | exact hb | (simp only [Bool.or_eq_false_iff, Bool.and_eq_false_iff, beq_eq_false_iff_ne, ne_eq, decide_eq_false_iff_not] at hb ⊢; omega)))) (by first | rfl | (simp; done) | (simp; omega) | (simp only [Bool.and_eq_true, Bool.or_eq_true, decide_eq_true_eq, beq_iff_eq]; omega))) (fun _ => rfl) (fun _ => rfl) (fun _ => rfl) (fun _ => rfl) hT2) (TextOK_keep (P := (fun b _ => b == 6 || b == 11 || b == 78 || (decide (49 ≤ b) && decide (b ≤ 59)))) (sm_up (sm_tr (sm_tr sm_rf (sm_w hs5 (by intro b k hb; first | rfl | exact hb | (simp only [Bool.or_eq_false_iff, Bool.and_eq_false_iff, beq_eq_false_iff_ne, ne_eq, decide_eq_false_iff_not] at hb ⊢; omega)))) (sm_w s_9 (by intro b k hb; first | rfl | exact hb | (simp only [Bool.or_eq_false_iff, Bool.and_eq_false_iff, beq_eq_false_iff_ne, ne_eq, decide_eq_false_iff_not] at hb ⊢; omega)))) (by first | rfl | (simp; done) | (simp; omega) | (simp only [Bool.and_eq_true, Bool.or_eq_true, decide_eq_true_eq, beq_iff_eq]; omega))) (fun _ => rfl) (fun _ => rfl) (fun _ => rfl) (fun _ => rfl) hT7) Q (by omega) N (by omega) (fun q hq => by rw [up_slot _ (by decide)]; exact s_9_b q hq)) aw_609 aw_612 aw_2 (by decide +kernel) ⟨by decide, by decide⟩ rfl (Nat.le_of_ble_eq_true rfl) ⟨by decide, by decide⟩ dX7_sharp_53 ?_
            rintro r_ M_12 (⟨rfl, s_11⟩ | ⟨rfl, s_11⟩)
            · refine j_if_eq X 61 (by decide) dX7_sharp_56 (fun c_13 => ?_) (fun c_13 => False.elim (by revert c_13; decide))
              refine j_iinc X (v := (nI (i_5 + 1))) 0 [(3, .int (nI (i_5 + 1))), (0, .ref (ad 0)), (1, .int (nI Q)), (2, .int (nI N))] rfl (show nI i_5 + Int32.ofInt 1 = _ from nI_1 i_5) (by decide) rfl dX7_sharp_61 ?_
              refine j_goto X 27 (by decide) dX7_sharp_64 ?_
              refine j_lv (lv1 := [(3, .int (nI (i_5 + 1))), (0, .ref (ad 0)), (1, .int (nI Q)), (2, .int (nI N))]) [0, 1, 2, 3] rfl ?_
              exact ih5 (i_5 + 1) _ (by omega) (by omega) (sm_tr (sm_up (sm_tr hs5 (sm_w s_9 (by intro b k hb; first | rfl | exact hb | (simp only [Bool.or_eq_false_iff, Bool.and_eq_false_iff, beq_eq_false_iff_ne, ne_eq, decide_eq_false_iff_not] at hb ⊢; omega)))) (by first | rfl | (simp; done) | (simp; omega) | (simp only [Bool.and_eq_true, Bool.or_eq_true, decide_eq_true_eq, beq_iff_eq]; omega))) (sm_w s_11 (by intro b k hb; first | rfl | exact hb | (simp only [Bool.or_eq_false_iff, Bool.and_eq_false_iff, beq_eq_false_iff_ne, ne_eq, decide_eq_false_iff_not] at hb ⊢; omega))))
            · refine j_if_eq X 61 (by decide) dX7_sharp_56 (fun c_14 => False.elim (by revert c_14; decide)) (fun c_14 => ?_)
              refine j_iload_n X 0 rfl rfl dX7_sharp_59 ?_
              exact j_iret X hr hlocks dX7_sharp_60 (sm_tr (sm_up (sm_tr (sm_tr sm_rf (sm_w hs5 (by intro b k hb; first | rfl | exact hb | (simp only [Bool.or_eq_false_iff, Bool.and_eq_false_iff, beq_eq_false_iff_ne, ne_eq, decide_eq_false_iff_not] at hb ⊢; omega)))) (sm_w s_9 (by intro b k hb; first | rfl | exact hb | (simp only [Bool.or_eq_false_iff, Bool.and_eq_false_iff, beq_eq_false_iff_ne, ne_eq, decide_eq_false_iff_not] at hb ⊢; omega)))) (by first | rfl | (simp; done) | (simp; omega) | (simp only [Bool.and_eq_true, Bool.or_eq_true, decide_eq_true_eq, beq_iff_eq]; omega))) (sm_w s_11 (by intro b k hb; first | rfl | exact hb | (simp only [Bool.or_eq_false_iff, Bool.and_eq_false_iff, beq_eq_false_iff_ne, ne_eq, decide_eq_false_iff_not] at hb ⊢; omega))))
      refine j_lv (lv1 := [(3, .int (nI 0)), (0, .ref (ad 0)), (1, .int (nI Q)), (2, .int (nI N))]) [0, 1, 2, 3] rfl ?_
      exact loop5 (100 + 1) 0 _ (by omega) (by omega) sm_rf
    · refine j_if_ne X 25 (by decide) dX7_sharp_15 (fun c_15 => False.elim (by revert c_15; decide)) (fun c_15 => ?_)
      refine j_aload_n X 0 rfl rfl dX7_sharp_18 ?_
      refine j_ldc X (v := (-1000000001)) aw_108 dX7_sharp_19 ?_
      refine j_callVI X (nn := 1) (As := [.int (-1000000001)]) (st := []) (ci := 7) (by decide) (wE_7 _ rfl) rfl aw_117 aw_118 (g_refuse l D y ad M (-1000000001) 1 (by decide) (by decide)) aw_116 aw_119 aw_2 (by decide +kernel) ⟨by decide, by decide⟩ rfl (Nat.le_of_ble_eq_true rfl) ⟨by decide, by decide⟩ dX7_sharp_21 ?_
      rintro r_ M_17 ⟨rfl, s_16⟩
      exact j_iret X hr hlocks dX7_sharp_24 (sm_tr sm_rf (sm_w s_16 (by intro b k hb; first | rfl | exact hb | (simp only [Bool.or_eq_false_iff, Bool.and_eq_false_iff, beq_eq_false_iff_ne, ne_eq, decide_eq_false_iff_not] at hb ⊢; omega))))
  · refine j_if_eq X 18 (by decide) dX7_sharp_5 (fun c_18 => ?_) (fun c_18 => False.elim (by revert c_18; decide))
    refine j_aload_n X 0 rfl rfl dX7_sharp_18 ?_
    refine j_ldc X (v := (-1000000001)) aw_108 dX7_sharp_19 ?_
    refine j_callVI X (nn := 1) (As := [.int (-1000000001)]) (st := []) (ci := 7) (by decide) (wE_7 _ rfl) rfl aw_117 aw_118 (g_refuse l D y ad M (-1000000001) 1 (by decide) (by decide)) aw_116 aw_119 aw_2 (by decide +kernel) ⟨by decide, by decide⟩ rfl (Nat.le_of_ble_eq_true rfl) ⟨by decide, by decide⟩ dX7_sharp_21 ?_
    rintro r_ M_20 ⟨rfl, s_19⟩
    exact j_iret X hr hlocks dX7_sharp_24 (sm_tr sm_rf (sm_w s_19 (by intro b k hb; first | rfl | exact hb | (simp only [Bool.or_eq_false_iff, Bool.and_eq_false_iff, beq_eq_false_iff_ne, ne_eq, decide_eq_false_iff_not] at hb ⊢; omega))))
theorem nI_nz {k : Nat} (h : 0 < k ∧ k < 2 ^ 30) : ¬ nI k = 0 := fun e => by have := nI_toInt (n := k) (by omega); rw [e] at this; simp at this; omega
set_option maxRecDepth 100000 in
set_option maxHeartbeats 4000000 in
theorem g_greatestDivisor (l : Launch) (D : va_G) (y : wY) (ad : Nat → Nat) (M : Mem) (v : Int32) : MI l D y ad yX7_greatestDivisor (Cond.code yX7_greatestDivisor cX7_greatestDivisor 3 (some .int)) 0 M [.int v, .int 10] (fun r M' => (∃ j, 1 ≤ j ∧ j ≤ 10 ∧ nI j = r) ∧ M = M') := by
  refine MI_of (by decide) (Nat.le_of_ble_eq_true rfl) ?_
  intro p e s m args below meth c X hr hlocks
  refine j_lv (lv1 := [(0, .int v), (1, .int 10)]) [0, 1] rfl ?_
  refine j_iload_n X 1 rfl rfl dX7_greatestDivisor_0 ?_
  refine j_istore_n X [(2, .int 10), (0, .int v), (1, .int 10)] rfl (by decide) rfl dX7_greatestDivisor_1 ?_
  have loop1 : ∀ (i_1 : Nat), i_1 ≤ 10 → J p l e (rmN 0) s m args below meth c 0 0 (QI (fun r M' => (∃ j, 1 ≤ j ∧ j ≤ 10 ∧ nI j = r) ∧ M = M') D y ad M s args below) D y ad (va_A (PL y ad M) s.heap.size) 3 M 2 [(2, .int (nI i_1)), (0, .int v), (1, .int 10)] [] := by
    intro i_1
    induction i_1 with
    | zero =>
      intro  h1i_1
      refine j_lv (lv1 := [(2, .int 0), (0, .int v), (1, .int 10)]) [0, 1, 2] rfl ?_
      refine j_iload_n X 0 rfl rfl dX7_greatestDivisor_2 ?_
      refine j_iconst X (v := 1) (by decide) dX7_greatestDivisor_3 ?_
      refine j_icmp_le X 27 (by decide) dX7_greatestDivisor_4 (fun c_2 => ?_) (fun c_2 => False.elim (by revert c_2; decide))
      refine j_iconst X (v := 1) (by decide) dX7_greatestDivisor_27 ?_
      exact j_iret X hr hlocks dX7_greatestDivisor_28 ⟨⟨1, by decide, by decide, rfl⟩, rfl⟩
    | succ i_1 ih1 =>
      intro  h1i_1
      refine j_iload_n X 0 rfl rfl dX7_greatestDivisor_2 ?_
      refine j_iconst X (v := 1) (by decide) dX7_greatestDivisor_3 ?_
      refine j_icmp_le X 27 (by decide) dX7_greatestDivisor_4 (fun c_3 => ?_) (fun c_3 => ?_)
      · refine j_iconst X (v := 1) (by decide) dX7_greatestDivisor_27 ?_
        exact j_iret X hr hlocks dX7_greatestDivisor_28 ⟨⟨1, by decide, by decide, rfl⟩, rfl⟩
      · refine j_iload_n X 1 rfl rfl dX7_greatestDivisor_7 ?_
        refine j_iload_n X 0 rfl rfl dX7_greatestDivisor_8 ?_
        refine j_irem X (nI_nz (k := (i_1 + 1)) (by omega)) dX7_greatestDivisor_9 ?_
        refine j_if_ne X 21 (by decide) dX7_greatestDivisor_10 (fun c_4 => ?_) (fun c_4 => ?_)
        · refine j_iinc X (v := (nI i_1)) 0 [(2, .int (nI i_1)), (0, .int v), (1, .int 10)] rfl (nI_dec i_1) (by decide) rfl dX7_greatestDivisor_21 ?_
          refine j_goto X 2 (by decide) dX7_greatestDivisor_24 ?_
          refine j_lv (lv1 := [(2, .int (nI i_1)), (0, .int v), (1, .int 10)]) [0, 1, 2] rfl ?_
          exact ih1 (by omega)
        · refine j_iload_n X 2 rfl rfl dX7_greatestDivisor_13 ?_
          refine j_iload_n X 0 rfl rfl dX7_greatestDivisor_14 ?_
          refine j_irem X (nI_nz (k := (i_1 + 1)) (by omega)) dX7_greatestDivisor_15 ?_
          refine j_if_ne X 21 (by decide) dX7_greatestDivisor_16 (fun c_5 => ?_) (fun c_5 => ?_)
          · refine j_iinc X (v := (nI i_1)) 0 [(2, .int (nI i_1)), (0, .int v), (1, .int 10)] rfl (nI_dec i_1) (by decide) rfl dX7_greatestDivisor_21 ?_
            refine j_goto X 2 (by decide) dX7_greatestDivisor_24 ?_
            refine j_lv (lv1 := [(2, .int (nI i_1)), (0, .int v), (1, .int 10)]) [0, 1, 2] rfl ?_
            exact ih1 (by omega)
          · refine j_iload_n X 0 rfl rfl dX7_greatestDivisor_19 ?_
            exact j_iret X hr hlocks dX7_greatestDivisor_20 ⟨⟨i_1 + 1, by omega, by omega, rfl⟩, rfl⟩
  refine j_lv (lv1 := [(2, .int (nI 10)), (0, .int v), (1, .int 10)]) [0, 1, 2] rfl ?_
  exact loop1 10 (by omega)
set_option maxRecDepth 100000 in
set_option maxHeartbeats 4000000 in
theorem g_X7_odds (l : Launch) (D : va_G) (y : wY) (ad : Nat → Nat) (M : Mem) (n : Nat) (hn : n ≤ 9) (hm : M 12 3 = nI n) (hB : ∀ q, q < 9 → BoolOK (M (14 + q) 6)) (z2 z7 : Nat) (hT2 : TextOK M 2 z2) (hT7 : TextOK M 7 z7) (q nn pt : Int32) : MI l D y ad yX7_odds (Cond.code yX7_odds cX7_odds 6 (some .int)) 9 M [.ref (ad 0), .int q, .int nn, .int pt] (fun _ M' => sm (fun b _ => b == 6 || b == 11 || b == 78 || (decide (49 ≤ b) && decide (b ≤ 59))) M M') := by
  refine MI_of (by decide) (Nat.le_of_ble_eq_true rfl) ?_
  intro p e s m args below meth c X hr hlocks
  refine j_lv (lv1 := [(0, .ref (ad 0)), (1, .int q), (2, .int nn), (3, .int pt)]) [0, 1, 2, 3] rfl ?_
  refine j_aload_n X 0 rfl rfl dX7_odds_0 ?_
  refine j_iload_n X 1 rfl rfl dX7_odds_1 ?_
  refine j_callVI X (nn := 1) (As := [.int q]) (st := []) (ci := 7) (by decide) (wE_7 _ rfl) rfl aw_191 aw_192 (g_isQuarrel l D y ad M n (by omega) hm q) aw_190 aw_193 aw_2 (by decide +kernel) ⟨by decide, by decide⟩ rfl (Nat.le_of_ble_eq_true rfl) ⟨by decide, by decide⟩ dX7_odds_2 ?_
  rintro r_ M1_ (⟨rfl, rfl, h_1⟩ | ⟨rfl, rfl⟩)
  · refine j_if_eq X 27 (by decide) dX7_odds_5 (fun c_2 => False.elim (by revert c_2; decide)) (fun c_2 => ?_)
    refine j_iload_n X 2 rfl rfl dX7_odds_8 ?_
    refine j_iconst X (v := 0) (by decide) dX7_odds_9 ?_
    refine j_bipush X (v := 60) (by decide) dX7_odds_10 ?_
    refine j_callSI X (nn := 3) (As := [.int nn, .int 0, .int 60]) (st := []) aw_110 (g_X7_isWithin l D y ad M nn 0 60 0 60 (by decide) (by decide)) aw_109 aw_111 aw_2 (by decide +kernel) ⟨by decide, by decide⟩ rfl (Nat.le_of_ble_eq_true rfl) ⟨by decide, by decide⟩ dX7_odds_12 ?_
    rintro r_ M1_ (⟨rfl, rfl, h_3⟩ | ⟨rfl, rfl, h_3⟩)
    · refine j_if_eq X 27 (by decide) dX7_odds_15 (fun c_4 => False.elim (by revert c_4; decide)) (fun c_4 => ?_)
      refine j_iload_n X 3 rfl rfl dX7_odds_18 ?_
      refine j_iconst X (v := 0) (by decide) dX7_odds_19 ?_
      refine j_iconst X (v := 1) (by decide) dX7_odds_20 ?_
      refine j_callSI X (nn := 3) (As := [.int pt, .int 0, .int 1]) (st := []) aw_110 (g_X7_isWithin l D y ad M pt 0 1 0 1 (by decide) (by decide)) aw_109 aw_111 aw_2 (by decide +kernel) ⟨by decide, by decide⟩ rfl (Nat.le_of_ble_eq_true rfl) ⟨by decide, by decide⟩ dX7_odds_21 ?_
      rintro r_ M1_ (⟨rfl, rfl, h_5⟩ | ⟨rfl, rfl, h_5⟩)
      · refine j_if_ne X 34 (by decide) dX7_odds_24 (fun c_6 => ?_) (fun c_6 => False.elim (by revert c_6; decide))
        obtain ⟨Q, hQ, rfl⟩ := nI_oft (x := q) (n := 8) (by omega) (by omega) (by decide)
        have eQ := nI_toInt (n := Q) (by omega)
        have lQ : Q < n := by omega
        obtain ⟨N, hN, rfl⟩ := nI_oft (x := nn) (n := 60) (by omega) (by omega) (by decide)
        refine j_iconst X (v := 0) (by decide) dX7_odds_34 ?_
        refine j_istore X [(4, .int 0), (0, .ref (ad 0)), (1, .int (nI Q)), (2, .int (nI N)), (3, .int pt)] (by decide) rfl dX7_odds_35 ?_
        refine j_iconst X (v := 0) (by decide) dX7_odds_37 ?_
        refine j_istore X [(5, .int 0), (4, .int 0), (0, .ref (ad 0)), (1, .int (nI Q)), (2, .int (nI N)), (3, .int pt)] (by decide) rfl dX7_odds_38 ?_
        have loop7 : ∀ (n_7 i_7 : Nat) (M7 : Mem) (v4_i_7 : Int32), i_7 ≤ 10 → 10 - i_7 < n_7 → sm (fun b _ => b == 6 || b == 11 || b == 78 || (decide (49 ≤ b) && decide (b ≤ 59))) M M7 → J p l e (rmN 9) s m args below meth c 0 0 (QI (fun _ M' => sm (fun b _ => b == 6 || b == 11 || b == 78 || (decide (49 ≤ b) && decide (b ≤ 59))) M M') D y ad M s args below) D y ad (va_A (PL y ad M) s.heap.size) 6 M7 40 [(5, .int (nI i_7)), (0, .ref (ad 0)), (1, .int (nI Q)), (2, .int (nI N)), (3, .int pt), (4, .int v4_i_7)] [] := by
          intro n_7
          induction n_7 with
          | zero => intro i_7 M7 v4_i_7 h1 h2; exact absurd h2 (by omega)
          | succ n_7 ih7 =>
            intro i_7 M7 v4_i_7 h1i_7 h2i_7 hs7
            refine j_iload X 0 rfl dX7_odds_40 ?_
            refine j_bipush X (v := 10) (by decide) dX7_odds_42 ?_
            refine j_icmp_ge X 78 (by decide) dX7_odds_44 (fun c_8 => ?_) (fun c_8 => ?_)
            · have c_8 := (nI_leI (by omega) (by omega)).mp (show nI (10) ≤ nI i_7 from c_8)
              refine j_iload X 5 rfl dX7_odds_78 ?_
              refine j_bipush X (v := 10) (by decide) dX7_odds_80 ?_
              refine j_callSI X (nn := 2) (As := [.int v4_i_7, .int 10]) (st := []) aw_721 (g_greatestDivisor l D y ad M7 v4_i_7) aw_720 aw_722 aw_2 (by decide +kernel) ⟨by decide, by decide⟩ rfl (Nat.le_of_ble_eq_true rfl) ⟨by decide, by decide⟩ dX7_odds_82 ?_
              rintro r_ M1_ ⟨⟨j_9, j_9_a, j_9_b, rfl⟩, rfl⟩
              refine j_istore X [(5, .int (nI j_9)), (0, .ref (ad 0)), (1, .int (nI Q)), (2, .int (nI N)), (3, .int pt), (4, .int v4_i_7)] (by decide) rfl dX7_odds_85 ?_
              refine j_iload_n X 4 rfl rfl dX7_odds_87 ?_
              refine j_if_ne X 99 (by decide) dX7_odds_88 (fun c_10 => ?_) (fun c_10 => ?_)
              · have qc_10 := ti_ne (n := 0) (by decide) c_10
                refine j_bipush X (v := 10) (by decide) dX7_odds_99 ?_
                refine j_iload X 0 rfl dX7_odds_101 ?_
                refine j_idiv X (nI_nz (k := j_9) (by omega)) dX7_odds_103 ?_
                exact j_iret X hr hlocks dX7_odds_104 (sm_tr sm_rf (sm_w hs7 (by intro b k hb; first | rfl | exact hb | (simp only [Bool.or_eq_false_iff, Bool.and_eq_false_iff, beq_eq_false_iff_ne, ne_eq, decide_eq_false_iff_not] at hb ⊢; omega))))
              · have qc_10 := ti_eq (n := 0) (by decide) c_10
                refine j_iload X 5 rfl dX7_odds_91 ?_
                refine j_iload X 0 rfl dX7_odds_93 ?_
                refine j_idiv X (nI_nz (k := j_9) (by omega)) dX7_odds_95 ?_
                refine j_goto X 104 (by decide) dX7_odds_96 ?_
                exact j_iret X hr hlocks dX7_odds_104 (sm_tr sm_rf (sm_w hs7 (by intro b k hb; first | rfl | exact hb | (simp only [Bool.or_eq_false_iff, Bool.and_eq_false_iff, beq_eq_false_iff_ne, ne_eq, decide_eq_false_iff_not] at hb ⊢; omega))))
            · have c_8 : i_7 < 10 := by
                rcases Nat.lt_or_ge i_7 (10) with g | g
                · exact g
                · exact absurd (show nI (10) ≤ nI i_7 from nI_le g (by omega)) c_8
              refine j_aload_n X 1 rfl rfl dX7_odds_47 ?_
              refine j_callVV X (nn := 0) (As := []) (st := []) (ci := 7) (by decide) (wE_7 _ rfl) rfl aw_534 aw_535 (g_think l D y ad M7 n (by omega) ((hs7 12 3 rfl).trans hm) (bool_keep (P := (fun b _ => b == 6 || b == 11 || b == 78 || (decide (49 ≤ b) && decide (b ≤ 59)))) (sm_tr sm_rf (sm_w hs7 (by intro b k hb; first | rfl | exact hb | (simp only [Bool.or_eq_false_iff, Bool.and_eq_false_iff, beq_eq_false_iff_ne, ne_eq, decide_eq_false_iff_not] at hb ⊢; omega)))) (fun q hq => by first | rfl | (simp; done) | (simp; omega)) hB)) aw_533 aw_536 aw_2 (by decide +kernel) ⟨by decide, by decide⟩ rfl (Nat.le_of_ble_eq_true rfl) ⟨by decide, by decide⟩ dX7_odds_48 ?_
              rintro M_12 ⟨s_11, s_11_g, s_11_b⟩
              refine j_aload_n X 1 rfl rfl dX7_odds_51 ?_
              refine j_get X (by decide) (wE_7 _ rfl) rfl awF7 2 (by decide) aw_21 rfl (v := .ref (ad 49)) rfl dX7_odds_52 ?_
              refine j_iload X 0 rfl dX7_odds_55 ?_
              refine j_putN X (up M_12 49 4 (nI i_7)) up_o (by decide) (wE_0 _ rfl) rfl awF0 4 (by decide) (wP_0_4 _ _ rfl) tyX0 tyX0_ok nmX0 rfl (ty := .int) (by decide +kernel) rfl rfl (Nat.le_of_ble_eq_true rfl) (List.mem_of_getElem? (i := 16) rfl) rfl dX7_odds_57 ?_
              refine j_aload_n X 1 rfl rfl dX7_odds_60 ?_
              refine j_iload_n X 2 rfl rfl dX7_odds_61 ?_
              refine j_iload_n X 3 rfl rfl dX7_odds_62 ?_
              refine j_callVI X (nn := 2) (As := [.int (nI Q), .int (nI N)]) (st := []) (ci := 7) (by decide) (wE_7 _ rfl) rfl aw_610 aw_611 (g_endsInThought l D y ad (up M_12 49 4 (nI i_7)) n (by omega) ((up_slot _ (by decide)).trans ((s_11_g 3 (by decide) (by decide)).trans ((hs7 12 3 rfl).trans hm))) z2 z7 (TextOK_keep (P := (fun b _ => b == 6 || b == 11 || b == 78 || (decide (49 ≤ b) && decide (b ≤ 59)))) (sm_up (sm_tr (sm_tr sm_rf (sm_w hs7 (by intro b k hb; first | rfl | exact hb | (simp only [Bool.or_eq_false_iff, Bool.and_eq_false_iff, beq_eq_false_iff_ne, ne_eq, decide_eq_false_iff_not] at hb ⊢; omega)))) (sm_w s_11 (by intro b k hb; first | rfl | exact hb | (simp only [Bool.or_eq_false_iff, Bool.and_eq_false_iff, beq_eq_false_iff_ne, ne_eq, decide_eq_false_iff_not] at hb ⊢; omega)))) rfl) (fun _ => rfl) (fun _ => rfl) (fun _ => rfl) (fun _ => rfl) hT2) (TextOK_keep (P := (fun b _ => b == 6 || b == 11 || b == 78 || (decide (49 ≤ b) && decide (b ≤ 59)))) (sm_up (sm_tr (sm_tr sm_rf (sm_w hs7 (by intro b k hb; first | rfl | exact hb | (simp only [Bool.or_eq_false_iff, Bool.and_eq_false_iff, beq_eq_false_iff_ne, ne_eq, decide_eq_false_iff_not] at hb ⊢; omega)))) (sm_w s_11 (by intro b k hb; first | rfl | exact hb | (simp only [Bool.or_eq_false_iff, Bool.and_eq_false_iff, beq_eq_false_iff_ne, ne_eq, decide_eq_false_iff_not] at hb ⊢; omega)))) rfl) (fun _ => rfl) (fun _ => rfl) (fun _ => rfl) (fun _ => rfl) hT7) Q (by omega) N (by omega) (fun q hq => by rw [up_slot _ (by decide)]; exact s_11_b q hq)) aw_609 aw_612 aw_2 (by decide +kernel) ⟨by decide, by decide⟩ rfl (Nat.le_of_ble_eq_true rfl) ⟨by decide, by decide⟩ dX7_odds_63 ?_
              rintro r_ M_14 (⟨rfl, s_13⟩ | ⟨rfl, s_13⟩)
              · refine j_if_eq X 72 (by decide) dX7_odds_66 (fun c_15 => ?_) (fun c_15 => False.elim (by revert c_15; decide))
                refine j_iinc X (v := (nI (i_7 + 1))) 0 [(5, .int (nI (i_7 + 1))), (0, .ref (ad 0)), (1, .int (nI Q)), (2, .int (nI N)), (3, .int pt), (4, .int v4_i_7)] rfl (show nI i_7 + Int32.ofInt 1 = _ from nI_1 i_7) (by decide) rfl dX7_odds_72 ?_
                refine j_goto X 40 (by decide) dX7_odds_75 ?_
                refine j_lv (lv1 := [(5, .int (nI (i_7 + 1))), (0, .ref (ad 0)), (1, .int (nI Q)), (2, .int (nI N)), (3, .int pt), (4, .int v4_i_7)]) [0, 1, 2, 3, 4, 5] rfl ?_
                exact ih7 (i_7 + 1) _ _ (by omega) (by omega) (sm_tr (sm_up (sm_tr hs7 (sm_w s_11 (by intro b k hb; first | rfl | exact hb | (simp only [Bool.or_eq_false_iff, Bool.and_eq_false_iff, beq_eq_false_iff_ne, ne_eq, decide_eq_false_iff_not] at hb ⊢; omega)))) rfl) (sm_w s_13 (by intro b k hb; first | rfl | exact hb | (simp only [Bool.or_eq_false_iff, Bool.and_eq_false_iff, beq_eq_false_iff_ne, ne_eq, decide_eq_false_iff_not] at hb ⊢; omega))))
              · refine j_if_eq X 72 (by decide) dX7_odds_66 (fun c_16 => False.elim (by revert c_16; decide)) (fun c_16 => ?_)
                refine j_iinc X (v := v4_i_7 + 1) 5 [(4, .int (v4_i_7 + 1)), (5, .int (nI i_7)), (0, .ref (ad 0)), (1, .int (nI Q)), (2, .int (nI N)), (3, .int pt)] rfl rfl (by decide) rfl dX7_odds_69 ?_
                refine j_iinc X (v := (nI (i_7 + 1))) 1 [(5, .int (nI (i_7 + 1))), (4, .int (v4_i_7 + 1)), (0, .ref (ad 0)), (1, .int (nI Q)), (2, .int (nI N)), (3, .int pt)] rfl (show nI i_7 + Int32.ofInt 1 = _ from nI_1 i_7) (by decide) rfl dX7_odds_72 ?_
                refine j_goto X 40 (by decide) dX7_odds_75 ?_
                refine j_lv (lv1 := [(5, .int (nI (i_7 + 1))), (0, .ref (ad 0)), (1, .int (nI Q)), (2, .int (nI N)), (3, .int pt), (4, .int (v4_i_7 + 1))]) [0, 2, 3, 4, 5, 1] rfl ?_
                exact ih7 (i_7 + 1) _ _ (by omega) (by omega) (sm_tr (sm_up (sm_tr hs7 (sm_w s_11 (by intro b k hb; first | rfl | exact hb | (simp only [Bool.or_eq_false_iff, Bool.and_eq_false_iff, beq_eq_false_iff_ne, ne_eq, decide_eq_false_iff_not] at hb ⊢; omega)))) rfl) (sm_w s_13 (by intro b k hb; first | rfl | exact hb | (simp only [Bool.or_eq_false_iff, Bool.and_eq_false_iff, beq_eq_false_iff_ne, ne_eq, decide_eq_false_iff_not] at hb ⊢; omega))))
        refine j_lv (lv1 := [(5, .int (nI 0)), (0, .ref (ad 0)), (1, .int (nI Q)), (2, .int (nI N)), (3, .int pt), (4, .int 0)]) [0, 2, 3, 4, 5, 1] rfl ?_
        exact loop7 (10 + 1) 0 _ _ (by omega) (by omega) sm_rf
      · refine j_if_ne X 34 (by decide) dX7_odds_24 (fun c_17 => False.elim (by revert c_17; decide)) (fun c_17 => ?_)
        refine j_aload_n X 0 rfl rfl dX7_odds_27 ?_
        refine j_ldc X (v := (-1000000001)) aw_108 dX7_odds_28 ?_
        refine j_callVI X (nn := 1) (As := [.int (-1000000001)]) (st := []) (ci := 7) (by decide) (wE_7 _ rfl) rfl aw_117 aw_118 (g_refuse l D y ad M (-1000000001) 1 (by decide) (by decide)) aw_116 aw_119 aw_2 (by decide +kernel) ⟨by decide, by decide⟩ rfl (Nat.le_of_ble_eq_true rfl) ⟨by decide, by decide⟩ dX7_odds_30 ?_
        rintro r_ M_19 ⟨rfl, s_18⟩
        exact j_iret X hr hlocks dX7_odds_33 (sm_tr sm_rf (sm_w s_18 (by intro b k hb; first | rfl | exact hb | (simp only [Bool.or_eq_false_iff, Bool.and_eq_false_iff, beq_eq_false_iff_ne, ne_eq, decide_eq_false_iff_not] at hb ⊢; omega))))
    · refine j_if_eq X 27 (by decide) dX7_odds_15 (fun c_20 => ?_) (fun c_20 => False.elim (by revert c_20; decide))
      refine j_aload_n X 0 rfl rfl dX7_odds_27 ?_
      refine j_ldc X (v := (-1000000001)) aw_108 dX7_odds_28 ?_
      refine j_callVI X (nn := 1) (As := [.int (-1000000001)]) (st := []) (ci := 7) (by decide) (wE_7 _ rfl) rfl aw_117 aw_118 (g_refuse l D y ad M (-1000000001) 1 (by decide) (by decide)) aw_116 aw_119 aw_2 (by decide +kernel) ⟨by decide, by decide⟩ rfl (Nat.le_of_ble_eq_true rfl) ⟨by decide, by decide⟩ dX7_odds_30 ?_
      rintro r_ M_22 ⟨rfl, s_21⟩
      exact j_iret X hr hlocks dX7_odds_33 (sm_tr sm_rf (sm_w s_21 (by intro b k hb; first | rfl | exact hb | (simp only [Bool.or_eq_false_iff, Bool.and_eq_false_iff, beq_eq_false_iff_ne, ne_eq, decide_eq_false_iff_not] at hb ⊢; omega))))
  · refine j_if_eq X 27 (by decide) dX7_odds_5 (fun c_23 => ?_) (fun c_23 => False.elim (by revert c_23; decide))
    refine j_aload_n X 0 rfl rfl dX7_odds_27 ?_
    refine j_ldc X (v := (-1000000001)) aw_108 dX7_odds_28 ?_
    refine j_callVI X (nn := 1) (As := [.int (-1000000001)]) (st := []) (ci := 7) (by decide) (wE_7 _ rfl) rfl aw_117 aw_118 (g_refuse l D y ad M (-1000000001) 1 (by decide) (by decide)) aw_116 aw_119 aw_2 (by decide +kernel) ⟨by decide, by decide⟩ rfl (Nat.le_of_ble_eq_true rfl) ⟨by decide, by decide⟩ dX7_odds_30 ?_
    rintro r_ M_25 ⟨rfl, s_24⟩
    exact j_iret X hr hlocks dX7_odds_33 (sm_tr sm_rf (sm_w s_24 (by intro b k hb; first | rfl | exact hb | (simp only [Bool.or_eq_false_iff, Bool.and_eq_false_iff, beq_eq_false_iff_ne, ne_eq, decide_eq_false_iff_not] at hb ⊢; omega))))
end
