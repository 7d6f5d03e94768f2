-- ===== PART A: goes FIRST, ahead of the names: the tables' words, and 'selects' of the private methods out of them =====
/-- a private method of a class that the tables say can be made, by its rows of tables_1 -/
def lw_okq (q : MethodName × Nat) : Prop := (q.1.cls ≠ "java/lang/invoke/MethodHandle" ∧ q.1.cls ≠ "java/lang/invoke/VarHandle") ∧ Cond.instantiable q.1.cls q.2 ∈ tables_1 ∧ Cond.privateMethod q.1 ∈ tables_1 ∧ Cond.instanceMethod q.1 ∈ tables_1
theorem lw_p0 : lw_okq (⟨"ConflictPlaces$Program", "parse", "([II)I"⟩, 11) := ⟨⟨by decide +kernel, by decide +kernel⟩, List.mem_of_getElem? (i := 27) (by decide +kernel), List.mem_of_getElem? (i := 478) (by decide +kernel), List.mem_of_getElem? (i := 479) (by decide +kernel)⟩
theorem lw_p1 : lw_okq (⟨"ConflictPlaces$Tokens", "scan", "([II)V"⟩, 6) := ⟨⟨by decide +kernel, by decide +kernel⟩, List.mem_of_getElem? (i := 33) (by decide +kernel), List.mem_of_getElem? (i := 482) (by decide +kernel), List.mem_of_getElem? (i := 483) (by decide +kernel)⟩
theorem lw_p2 : lw_okq (⟨"ConflictPlaces$Tokens", "scanOne", "([III)I"⟩, 6) := ⟨⟨by decide +kernel, by decide +kernel⟩, List.mem_of_getElem? (i := 33) (by decide +kernel), List.mem_of_getElem? (i := 489) (by decide +kernel), List.mem_of_getElem? (i := 490) (by decide +kernel)⟩
theorem lw_p3 : lw_okq (⟨"ConflictPlaces$Tokens", "scanWord", "([III)I"⟩, 6) := ⟨⟨by decide +kernel, by decide +kernel⟩, List.mem_of_getElem? (i := 33) (by decide +kernel), List.mem_of_getElem? (i := 496) (by decide +kernel), List.mem_of_getElem? (i := 497) (by decide +kernel)⟩
theorem lw_p4 : lw_okq (⟨"ConflictPlaces$Tokens", "giveUp", "(II)I"⟩, 6) := ⟨⟨by decide +kernel, by decide +kernel⟩, List.mem_of_getElem? (i := 33) (by decide +kernel), List.mem_of_getElem? (i := 503) (by decide +kernel), List.mem_of_getElem? (i := 504) (by decide +kernel)⟩
theorem lw_p5 : lw_okq (⟨"ConflictPlaces$Tokens", "append", "(IIJ)V"⟩, 6) := ⟨⟨by decide +kernel, by decide +kernel⟩, List.mem_of_getElem? (i := 33) (by decide +kernel), List.mem_of_getElem? (i := 507) (by decide +kernel), List.mem_of_getElem? (i := 508) (by decide +kernel)⟩
theorem lw_p6 : lw_okq (⟨"ConflictPlaces$Tokens", "accept", "(IIJI)I"⟩, 6) := ⟨⟨by decide +kernel, by decide +kernel⟩, List.mem_of_getElem? (i := 33) (by decide +kernel), List.mem_of_getElem? (i := 517) (by decide +kernel), List.mem_of_getElem? (i := 518) (by decide +kernel)⟩
theorem lw_p7 : lw_okq (⟨"ConflictPlaces$Tokens", "scanNumber", "([III)I"⟩, 6) := ⟨⟨by decide +kernel, by decide +kernel⟩, List.mem_of_getElem? (i := 33) (by decide +kernel), List.mem_of_getElem? (i := 521) (by decide +kernel), List.mem_of_getElem? (i := 522) (by decide +kernel)⟩
theorem lw_p8 : lw_okq (⟨"ConflictPlaces$Tokens", "scanQuoted", "([III)I"⟩, 6) := ⟨⟨by decide +kernel, by decide +kernel⟩, List.mem_of_getElem? (i := 33) (by decide +kernel), List.mem_of_getElem? (i := 525) (by decide +kernel), List.mem_of_getElem? (i := 526) (by decide +kernel)⟩
theorem lw_p9 : lw_okq (⟨"ConflictPlaces$Tokens", "scanSign", "([III)I"⟩, 6) := ⟨⟨by decide +kernel, by decide +kernel⟩, List.mem_of_getElem? (i := 33) (by decide +kernel), List.mem_of_getElem? (i := 532) (by decide +kernel), List.mem_of_getElem? (i := 533) (by decide +kernel)⟩
theorem lw_p10 : lw_okq (⟨"ConflictPlaces$Tokens", "markPairs", "()V"⟩, 6) := ⟨⟨by decide +kernel, by decide +kernel⟩, List.mem_of_getElem? (i := 33) (by decide +kernel), List.mem_of_getElem? (i := 542) (by decide +kernel), List.mem_of_getElem? (i := 543) (by decide +kernel)⟩
theorem lw_p11 : lw_okq (⟨"ConflictPlaces$Names", "clear", "()V"⟩, 9) := ⟨⟨by decide +kernel, by decide +kernel⟩, List.mem_of_getElem? (i := 146) (by decide +kernel), List.mem_of_getElem? (i := 546) (by decide +kernel), List.mem_of_getElem? (i := 547) (by decide +kernel)⟩
theorem lw_p12 : lw_okq (⟨"ConflictPlaces$Program", "moveTo", "(I)V"⟩, 11) := ⟨⟨by decide +kernel, by decide +kernel⟩, List.mem_of_getElem? (i := 27) (by decide +kernel), List.mem_of_getElem? (i := 550) (by decide +kernel), List.mem_of_getElem? (i := 551) (by decide +kernel)⟩
theorem lw_p13 : lw_okq (⟨"ConflictPlaces$Program", "declaration", "()V"⟩, 11) := ⟨⟨by decide +kernel, by decide +kernel⟩, List.mem_of_getElem? (i := 27) (by decide +kernel), List.mem_of_getElem? (i := 554) (by decide +kernel), List.mem_of_getElem? (i := 555) (by decide +kernel)⟩
theorem lw_p14 : lw_okq (⟨"ConflictPlaces$Names", "addDecl", "(JI)Z"⟩, 9) := ⟨⟨by decide +kernel, by decide +kernel⟩, List.mem_of_getElem? (i := 146) (by decide +kernel), List.mem_of_getElem? (i := 558) (by decide +kernel), List.mem_of_getElem? (i := 559) (by decide +kernel)⟩
theorem lw_p15 : lw_okq (⟨"ConflictPlaces$Names", "addBinder", "(JII)V"⟩, 9) := ⟨⟨by decide +kernel, by decide +kernel⟩, List.mem_of_getElem? (i := 146) (by decide +kernel), List.mem_of_getElem? (i := 562) (by decide +kernel), List.mem_of_getElem? (i := 563) (by decide +kernel)⟩
def lw_privs_1 : List (MethodName × Nat) := [(⟨"ConflictPlaces$Program", "parse", "([II)I"⟩, 11), (⟨"ConflictPlaces$Tokens", "scan", "([II)V"⟩, 6), (⟨"ConflictPlaces$Tokens", "scanOne", "([III)I"⟩, 6), (⟨"ConflictPlaces$Tokens", "scanWord", "([III)I"⟩, 6), (⟨"ConflictPlaces$Tokens", "giveUp", "(II)I"⟩, 6), (⟨"ConflictPlaces$Tokens", "append", "(IIJ)V"⟩, 6), (⟨"ConflictPlaces$Tokens", "accept", "(IIJI)I"⟩, 6), (⟨"ConflictPlaces$Tokens", "scanNumber", "([III)I"⟩, 6), (⟨"ConflictPlaces$Tokens", "scanQuoted", "([III)I"⟩, 6), (⟨"ConflictPlaces$Tokens", "scanSign", "([III)I"⟩, 6), (⟨"ConflictPlaces$Tokens", "markPairs", "()V"⟩, 6), (⟨"ConflictPlaces$Names", "clear", "()V"⟩, 9), (⟨"ConflictPlaces$Program", "moveTo", "(I)V"⟩, 11), (⟨"ConflictPlaces$Program", "declaration", "()V"⟩, 11), (⟨"ConflictPlaces$Names", "addDecl", "(JI)Z"⟩, 9), (⟨"ConflictPlaces$Names", "addBinder", "(JII)V"⟩, 9)]
theorem lw_r1 : ∀ q ∈ lw_privs_1, lw_okq q := List.forall_mem_cons.mpr ⟨lw_p0, List.forall_mem_cons.mpr ⟨lw_p1, List.forall_mem_cons.mpr ⟨lw_p2, List.forall_mem_cons.mpr ⟨lw_p3, List.forall_mem_cons.mpr ⟨lw_p4, List.forall_mem_cons.mpr ⟨lw_p5, List.forall_mem_cons.mpr ⟨lw_p6, List.forall_mem_cons.mpr ⟨lw_p7, List.forall_mem_cons.mpr ⟨lw_p8, List.forall_mem_cons.mpr ⟨lw_p9, List.forall_mem_cons.mpr ⟨lw_p10, List.forall_mem_cons.mpr ⟨lw_p11, List.forall_mem_cons.mpr ⟨lw_p12, List.forall_mem_cons.mpr ⟨lw_p13, List.forall_mem_cons.mpr ⟨lw_p14, List.forall_mem_cons.mpr ⟨lw_p15, fun _ h => absurd h List.not_mem_nil⟩⟩⟩⟩⟩⟩⟩⟩⟩⟩⟩⟩⟩⟩⟩⟩
theorem lw_p16 : lw_okq (⟨"ConflictPlaces$Program", "refuse", "()V"⟩, 11) := ⟨⟨by decide +kernel, by decide +kernel⟩, List.mem_of_getElem? (i := 27) (by decide +kernel), List.mem_of_getElem? (i := 566) (by decide +kernel), List.mem_of_getElem? (i := 567) (by decide +kernel)⟩
theorem lw_p17 : lw_okq (⟨"ConflictPlaces$Program", "advance", "()V"⟩, 11) := ⟨⟨by decide +kernel, by decide +kernel⟩, List.mem_of_getElem? (i := 27) (by decide +kernel), List.mem_of_getElem? (i := 570) (by decide +kernel), List.mem_of_getElem? (i := 571) (by decide +kernel)⟩
theorem lw_p18 : lw_okq (⟨"ConflictPlaces$Program", "bind", "()Z"⟩, 11) := ⟨⟨by decide +kernel, by decide +kernel⟩, List.mem_of_getElem? (i := 27) (by decide +kernel), List.mem_of_getElem? (i := 574) (by decide +kernel), List.mem_of_getElem? (i := 575) (by decide +kernel)⟩
theorem lw_p19 : lw_okq (⟨"ConflictPlaces$Names", "addInner", "(JII)I"⟩, 9) := ⟨⟨by decide +kernel, by decide +kernel⟩, List.mem_of_getElem? (i := 146) (by decide +kernel), List.mem_of_getElem? (i := 578) (by decide +kernel), List.mem_of_getElem? (i := 579) (by decide +kernel)⟩
theorem lw_p20 : lw_okq (⟨"ConflictPlaces$Names", "endInners", "()V"⟩, 9) := ⟨⟨by decide +kernel, by decide +kernel⟩, List.mem_of_getElem? (i := 146) (by decide +kernel), List.mem_of_getElem? (i := 582) (by decide +kernel), List.mem_of_getElem? (i := 583) (by decide +kernel)⟩
theorem lw_p21 : lw_okq (⟨"ConflictPlaces$Program", "take", "(I)Z"⟩, 11) := ⟨⟨by decide +kernel, by decide +kernel⟩, List.mem_of_getElem? (i := 27) (by decide +kernel), List.mem_of_getElem? (i := 586) (by decide +kernel), List.mem_of_getElem? (i := 587) (by decide +kernel)⟩
theorem lw_p22 : lw_okq (⟨"ConflictPlaces$Program", "expression", "(I)I"⟩, 11) := ⟨⟨by decide +kernel, by decide +kernel⟩, List.mem_of_getElem? (i := 27) (by decide +kernel), List.mem_of_getElem? (i := 590) (by decide +kernel), List.mem_of_getElem? (i := 591) (by decide +kernel)⟩
theorem lw_p23 : lw_okq (⟨"ConflictPlaces$Program", "lambda", "(I)I"⟩, 11) := ⟨⟨by decide +kernel, by decide +kernel⟩, List.mem_of_getElem? (i := 27) (by decide +kernel), List.mem_of_getElem? (i := 594) (by decide +kernel), List.mem_of_getElem? (i := 595) (by decide +kernel)⟩
theorem lw_p24 : lw_okq (⟨"ConflictPlaces$Program", "makeOpening", "(I)I"⟩, 11) := ⟨⟨by decide +kernel, by decide +kernel⟩, List.mem_of_getElem? (i := 27) (by decide +kernel), List.mem_of_getElem? (i := 598) (by decide +kernel), List.mem_of_getElem? (i := 599) (by decide +kernel)⟩
theorem lw_p25 : lw_okq (⟨"ConflictPlaces$Program", "make", "(I)I"⟩, 11) := ⟨⟨by decide +kernel, by decide +kernel⟩, List.mem_of_getElem? (i := 27) (by decide +kernel), List.mem_of_getElem? (i := 602) (by decide +kernel), List.mem_of_getElem? (i := 603) (by decide +kernel)⟩
theorem lw_p26 : lw_okq (⟨"ConflictPlaces$Program", "countNode", "()Z"⟩, 11) := ⟨⟨by decide +kernel, by decide +kernel⟩, List.mem_of_getElem? (i := 27) (by decide +kernel), List.mem_of_getElem? (i := 606) (by decide +kernel), List.mem_of_getElem? (i := 607) (by decide +kernel)⟩
theorem lw_p27 : lw_okq (⟨"ConflictPlaces$Tree", "add", "(IIIJ)I"⟩, 13) := ⟨⟨by decide +kernel, by decide +kernel⟩, List.mem_of_getElem? (i := 66) (by decide +kernel), List.mem_of_getElem? (i := 610) (by decide +kernel), List.mem_of_getElem? (i := 611) (by decide +kernel)⟩
theorem lw_p28 : lw_okq (⟨"ConflictPlaces$Program", "choice", "(I)I"⟩, 11) := ⟨⟨by decide +kernel, by decide +kernel⟩, List.mem_of_getElem? (i := 27) (by decide +kernel), List.mem_of_getElem? (i := 614) (by decide +kernel), List.mem_of_getElem? (i := 615) (by decide +kernel)⟩
theorem lw_p29 : lw_okq (⟨"ConflictPlaces$Program", "branch", "(II)I"⟩, 11) := ⟨⟨by decide +kernel, by decide +kernel⟩, List.mem_of_getElem? (i := 27) (by decide +kernel), List.mem_of_getElem? (i := 618) (by decide +kernel), List.mem_of_getElem? (i := 619) (by decide +kernel)⟩
theorem lw_p30 : lw_okq (⟨"ConflictPlaces$Program", "joined", "(II)I"⟩, 11) := ⟨⟨by decide +kernel, by decide +kernel⟩, List.mem_of_getElem? (i := 27) (by decide +kernel), List.mem_of_getElem? (i := 622) (by decide +kernel), List.mem_of_getElem? (i := 623) (by decide +kernel)⟩
theorem lw_p31 : lw_okq (⟨"ConflictPlaces$Tree", "has", "(I)Z"⟩, 13) := ⟨⟨by decide +kernel, by decide +kernel⟩, List.mem_of_getElem? (i := 66) (by decide +kernel), List.mem_of_getElem? (i := 626) (by decide +kernel), List.mem_of_getElem? (i := 627) (by decide +kernel)⟩
def lw_privs_2 : List (MethodName × Nat) := [(⟨"ConflictPlaces$Program", "refuse", "()V"⟩, 11), (⟨"ConflictPlaces$Program", "advance", "()V"⟩, 11), (⟨"ConflictPlaces$Program", "bind", "()Z"⟩, 11), (⟨"ConflictPlaces$Names", "addInner", "(JII)I"⟩, 9), (⟨"ConflictPlaces$Names", "endInners", "()V"⟩, 9), (⟨"ConflictPlaces$Program", "take", "(I)Z"⟩, 11), (⟨"ConflictPlaces$Program", "expression", "(I)I"⟩, 11), (⟨"ConflictPlaces$Program", "lambda", "(I)I"⟩, 11), (⟨"ConflictPlaces$Program", "makeOpening", "(I)I"⟩, 11), (⟨"ConflictPlaces$Program", "make", "(I)I"⟩, 11), (⟨"ConflictPlaces$Program", "countNode", "()Z"⟩, 11), (⟨"ConflictPlaces$Tree", "add", "(IIIJ)I"⟩, 13), (⟨"ConflictPlaces$Program", "choice", "(I)I"⟩, 11), (⟨"ConflictPlaces$Program", "branch", "(II)I"⟩, 11), (⟨"ConflictPlaces$Program", "joined", "(II)I"⟩, 11), (⟨"ConflictPlaces$Tree", "has", "(I)Z"⟩, 13)]
theorem lw_r2 : ∀ q ∈ lw_privs_2, lw_okq q := List.forall_mem_cons.mpr ⟨lw_p16, List.forall_mem_cons.mpr ⟨lw_p17, List.forall_mem_cons.mpr ⟨lw_p18, List.forall_mem_cons.mpr ⟨lw_p19, List.forall_mem_cons.mpr ⟨lw_p20, List.forall_mem_cons.mpr ⟨lw_p21, List.forall_mem_cons.mpr ⟨lw_p22, List.forall_mem_cons.mpr ⟨lw_p23, List.forall_mem_cons.mpr ⟨lw_p24, List.forall_mem_cons.mpr ⟨lw_p25, List.forall_mem_cons.mpr ⟨lw_p26, List.forall_mem_cons.mpr ⟨lw_p27, List.forall_mem_cons.mpr ⟨lw_p28, List.forall_mem_cons.mpr ⟨lw_p29, List.forall_mem_cons.mpr ⟨lw_p30, List.forall_mem_cons.mpr ⟨lw_p31, fun _ h => absurd h List.not_mem_nil⟩⟩⟩⟩⟩⟩⟩⟩⟩⟩⟩⟩⟩⟩⟩⟩
theorem lw_p32 : lw_okq (⟨"ConflictPlaces$Program", "operators", "(II)I"⟩, 11) := ⟨⟨by decide +kernel, by decide +kernel⟩, List.mem_of_getElem? (i := 27) (by decide +kernel), List.mem_of_getElem? (i := 630) (by decide +kernel), List.mem_of_getElem? (i := 631) (by decide +kernel)⟩
theorem lw_p33 : lw_okq (⟨"ConflictPlaces$Program", "calls", "(I)I"⟩, 11) := ⟨⟨by decide +kernel, by decide +kernel⟩, List.mem_of_getElem? (i := 27) (by decide +kernel), List.mem_of_getElem? (i := 634) (by decide +kernel), List.mem_of_getElem? (i := 635) (by decide +kernel)⟩
theorem lw_p34 : lw_okq (⟨"ConflictPlaces$Program", "atom", "(I)I"⟩, 11) := ⟨⟨by decide +kernel, by decide +kernel⟩, List.mem_of_getElem? (i := 27) (by decide +kernel), List.mem_of_getElem? (i := 638) (by decide +kernel), List.mem_of_getElem? (i := 639) (by decide +kernel)⟩
theorem lw_p35 : lw_okq (⟨"ConflictPlaces$Program", "group", "(I)I"⟩, 11) := ⟨⟨by decide +kernel, by decide +kernel⟩, List.mem_of_getElem? (i := 27) (by decide +kernel), List.mem_of_getElem? (i := 642) (by decide +kernel), List.mem_of_getElem? (i := 643) (by decide +kernel)⟩
theorem lw_p36 : lw_okq (⟨"ConflictPlaces$Program", "list", "(I)I"⟩, 11) := ⟨⟨by decide +kernel, by decide +kernel⟩, List.mem_of_getElem? (i := 27) (by decide +kernel), List.mem_of_getElem? (i := 646) (by decide +kernel), List.mem_of_getElem? (i := 647) (by decide +kernel)⟩
theorem lw_p37 : lw_okq (⟨"ConflictPlaces$Names", "endDecl", "(I)V"⟩, 9) := ⟨⟨by decide +kernel, by decide +kernel⟩, List.mem_of_getElem? (i := 146) (by decide +kernel), List.mem_of_getElem? (i := 656) (by decide +kernel), List.mem_of_getElem? (i := 657) (by decide +kernel)⟩
theorem lw_p38 : lw_okq (⟨"ConflictPlaces$Program", "firstMeaningless", "()I"⟩, 11) := ⟨⟨by decide +kernel, by decide +kernel⟩, List.mem_of_getElem? (i := 27) (by decide +kernel), List.mem_of_getElem? (i := 660) (by decide +kernel), List.mem_of_getElem? (i := 661) (by decide +kernel)⟩
theorem lw_p39 : lw_okq (⟨"ConflictPlaces$Names", "firstTaken", "()I"⟩, 9) := ⟨⟨by decide +kernel, by decide +kernel⟩, List.mem_of_getElem? (i := 146) (by decide +kernel), List.mem_of_getElem? (i := 664) (by decide +kernel), List.mem_of_getElem? (i := 665) (by decide +kernel)⟩
theorem lw_p40 : lw_okq (⟨"ConflictPlaces$Names", "lookUp", "(JI)I"⟩, 9) := ⟨⟨by decide +kernel, by decide +kernel⟩, List.mem_of_getElem? (i := 146) (by decide +kernel), List.mem_of_getElem? (i := 668) (by decide +kernel), List.mem_of_getElem? (i := 669) (by decide +kernel)⟩
theorem lw_p41 : lw_okq (⟨"ConflictPlaces$Names", "isBuiltIn", "(J)Z"⟩, 9) := ⟨⟨by decide +kernel, by decide +kernel⟩, List.mem_of_getElem? (i := 146) (by decide +kernel), List.mem_of_getElem? (i := 672) (by decide +kernel), List.mem_of_getElem? (i := 673) (by decide +kernel)⟩
theorem lw_p42 : lw_okq (⟨"ConflictPlaces$Names", "standsBetween", "(JII)Z"⟩, 9) := ⟨⟨by decide +kernel, by decide +kernel⟩, List.mem_of_getElem? (i := 146) (by decide +kernel), List.mem_of_getElem? (i := 676) (by decide +kernel), List.mem_of_getElem? (i := 677) (by decide +kernel)⟩
theorem lw_p43 : lw_okq (⟨"ConflictPlaces$Rules", "build", "(LConflictPlaces$Tree;LConflictPlaces$Names;)V"⟩, 9) := ⟨⟨by decide +kernel, by decide +kernel⟩, List.mem_of_getElem? (i := 238) (by decide +kernel), List.mem_of_getElem? (i := 681) (by decide +kernel), List.mem_of_getElem? (i := 682) (by decide +kernel)⟩
theorem lw_p44 : lw_okq (⟨"ConflictPlaces$Names", "binders", "()I"⟩, 9) := ⟨⟨by decide +kernel, by decide +kernel⟩, List.mem_of_getElem? (i := 146) (by decide +kernel), List.mem_of_getElem? (i := 685) (by decide +kernel), List.mem_of_getElem? (i := 686) (by decide +kernel)⟩
theorem lw_p45 : lw_okq (⟨"ConflictPlaces$Rules", "binderVariable", "(I)I"⟩, 9) := ⟨⟨by decide +kernel, by decide +kernel⟩, List.mem_of_getElem? (i := 238) (by decide +kernel), List.mem_of_getElem? (i := 689) (by decide +kernel), List.mem_of_getElem? (i := 690) (by decide +kernel)⟩
theorem lw_p46 : lw_okq (⟨"ConflictPlaces$Rules", "add", "(IIIIII)V"⟩, 9) := ⟨⟨by decide +kernel, by decide +kernel⟩, List.mem_of_getElem? (i := 238) (by decide +kernel), List.mem_of_getElem? (i := 693) (by decide +kernel), List.mem_of_getElem? (i := 694) (by decide +kernel)⟩
theorem lw_p47 : lw_okq (⟨"ConflictPlaces$Rules", "addOwn", "(LConflictPlaces$Tree;III)V"⟩, 9) := ⟨⟨by decide +kernel, by decide +kernel⟩, List.mem_of_getElem? (i := 238) (by decide +kernel), List.mem_of_getElem? (i := 697) (by decide +kernel), List.mem_of_getElem? (i := 698) (by decide +kernel)⟩
def lw_privs_3 : List (MethodName × Nat) := [(⟨"ConflictPlaces$Program", "operators", "(II)I"⟩, 11), (⟨"ConflictPlaces$Program", "calls", "(I)I"⟩, 11), (⟨"ConflictPlaces$Program", "atom", "(I)I"⟩, 11), (⟨"ConflictPlaces$Program", "group", "(I)I"⟩, 11), (⟨"ConflictPlaces$Program", "list", "(I)I"⟩, 11), (⟨"ConflictPlaces$Names", "endDecl", "(I)V"⟩, 9), (⟨"ConflictPlaces$Program", "firstMeaningless", "()I"⟩, 11), (⟨"ConflictPlaces$Names", "firstTaken", "()I"⟩, 9), (⟨"ConflictPlaces$Names", "lookUp", "(JI)I"⟩, 9), (⟨"ConflictPlaces$Names", "isBuiltIn", "(J)Z"⟩, 9), (⟨"ConflictPlaces$Names", "standsBetween", "(JII)Z"⟩, 9), (⟨"ConflictPlaces$Rules", "build", "(LConflictPlaces$Tree;LConflictPlaces$Names;)V"⟩, 9), (⟨"ConflictPlaces$Names", "binders", "()I"⟩, 9), (⟨"ConflictPlaces$Rules", "binderVariable", "(I)I"⟩, 9), (⟨"ConflictPlaces$Rules", "add", "(IIIIII)V"⟩, 9), (⟨"ConflictPlaces$Rules", "addOwn", "(LConflictPlaces$Tree;III)V"⟩, 9)]
theorem lw_r3 : ∀ q ∈ lw_privs_3, lw_okq q := List.forall_mem_cons.mpr ⟨lw_p32, List.forall_mem_cons.mpr ⟨lw_p33, List.forall_mem_cons.mpr ⟨lw_p34, List.forall_mem_cons.mpr ⟨lw_p35, List.forall_mem_cons.mpr ⟨lw_p36, List.forall_mem_cons.mpr ⟨lw_p37, List.forall_mem_cons.mpr ⟨lw_p38, List.forall_mem_cons.mpr ⟨lw_p39, List.forall_mem_cons.mpr ⟨lw_p40, List.forall_mem_cons.mpr ⟨lw_p41, List.forall_mem_cons.mpr ⟨lw_p42, List.forall_mem_cons.mpr ⟨lw_p43, List.forall_mem_cons.mpr ⟨lw_p44, List.forall_mem_cons.mpr ⟨lw_p45, List.forall_mem_cons.mpr ⟨lw_p46, List.forall_mem_cons.mpr ⟨lw_p47, fun _ h => absurd h List.not_mem_nil⟩⟩⟩⟩⟩⟩⟩⟩⟩⟩⟩⟩⟩⟩⟩⟩
theorem lw_p48 : lw_okq (⟨"ConflictPlaces$Rules", "addBranch", "(LConflictPlaces$Tree;II)V"⟩, 9) := ⟨⟨by decide +kernel, by decide +kernel⟩, List.mem_of_getElem? (i := 238) (by decide +kernel), List.mem_of_getElem? (i := 701) (by decide +kernel), List.mem_of_getElem? (i := 702) (by decide +kernel)⟩
theorem lw_p49 : lw_okq (⟨"ConflictPlaces$Rules", "addList", "(LConflictPlaces$Tree;II)V"⟩, 9) := ⟨⟨by decide +kernel, by decide +kernel⟩, List.mem_of_getElem? (i := 238) (by decide +kernel), List.mem_of_getElem? (i := 706) (by decide +kernel), List.mem_of_getElem? (i := 707) (by decide +kernel)⟩
theorem lw_p50 : lw_okq (⟨"ConflictPlaces$Rules", "ownVariable", "(I)I"⟩, 9) := ⟨⟨by decide +kernel, by decide +kernel⟩, List.mem_of_getElem? (i := 238) (by decide +kernel), List.mem_of_getElem? (i := 710) (by decide +kernel), List.mem_of_getElem? (i := 711) (by decide +kernel)⟩
theorem lw_p51 : lw_okq (⟨"ConflictPlaces$Rules", "addSign", "(IIIII)V"⟩, 9) := ⟨⟨by decide +kernel, by decide +kernel⟩, List.mem_of_getElem? (i := 238) (by decide +kernel), List.mem_of_getElem? (i := 714) (by decide +kernel), List.mem_of_getElem? (i := 715) (by decide +kernel)⟩
theorem lw_p52 : lw_okq (⟨"ConflictPlaces$Hunt", "restart", "()V"⟩, 6) := ⟨⟨by decide +kernel, by decide +kernel⟩, List.mem_of_getElem? (i := 354) (by decide +kernel), List.mem_of_getElem? (i := 718) (by decide +kernel), List.mem_of_getElem? (i := 719) (by decide +kernel)⟩
theorem lw_p53 : lw_okq (⟨"ConflictPlaces$Mender", "forget", "()V"⟩, 5) := ⟨⟨by decide +kernel, by decide +kernel⟩, List.mem_of_getElem? (i := 383) (by decide +kernel), List.mem_of_getElem? (i := 725) (by decide +kernel), List.mem_of_getElem? (i := 726) (by decide +kernel)⟩
theorem lw_p54 : lw_okq (⟨"ConflictPlaces", "isNode", "(I)Z"⟩, 10) := ⟨⟨by decide +kernel, by decide +kernel⟩, List.mem_of_getElem? (i := 19) (by decide +kernel), List.mem_of_getElem? (i := 738) (by decide +kernel), List.mem_of_getElem? (i := 739) (by decide +kernel)⟩
theorem lw_p55 : lw_okq (⟨"ConflictPlaces", "isRule", "(I)Z"⟩, 10) := ⟨⟨by decide +kernel, by decide +kernel⟩, List.mem_of_getElem? (i := 19) (by decide +kernel), List.mem_of_getElem? (i := 746) (by decide +kernel), List.mem_of_getElem? (i := 747) (by decide +kernel)⟩
theorem lw_p56 : lw_okq (⟨"ConflictPlaces$Rules", "placeOf", "(I)I"⟩, 9) := ⟨⟨by decide +kernel, by decide +kernel⟩, List.mem_of_getElem? (i := 238) (by decide +kernel), List.mem_of_getElem? (i := 750) (by decide +kernel), List.mem_of_getElem? (i := 751) (by decide +kernel)⟩
theorem lw_p57 : lw_okq (⟨"ConflictPlaces", "solveAll", "()Z"⟩, 10) := ⟨⟨by decide +kernel, by decide +kernel⟩, List.mem_of_getElem? (i := 19) (by decide +kernel), List.mem_of_getElem? (i := 758) (by decide +kernel), List.mem_of_getElem? (i := 759) (by decide +kernel)⟩
theorem lw_p58 : lw_okq (⟨"ConflictPlaces", "solveChosen", "()Z"⟩, 10) := ⟨⟨by decide +kernel, by decide +kernel⟩, List.mem_of_getElem? (i := 19) (by decide +kernel), List.mem_of_getElem? (i := 762) (by decide +kernel), List.mem_of_getElem? (i := 763) (by decide +kernel)⟩
theorem lw_p59 : lw_okq (⟨"ConflictPlaces$Solver", "solves", "(LConflictPlaces$Rules;[Z)Z"⟩, 8) := ⟨⟨by decide +kernel, by decide +kernel⟩, List.mem_of_getElem? (i := 320) (by decide +kernel), List.mem_of_getElem? (i := 766) (by decide +kernel), List.mem_of_getElem? (i := 767) (by decide +kernel)⟩
theorem lw_p60 : lw_okq (⟨"ConflictPlaces$Rules", "variables", "()I"⟩, 9) := ⟨⟨by decide +kernel, by decide +kernel⟩, List.mem_of_getElem? (i := 238) (by decide +kernel), List.mem_of_getElem? (i := 770) (by decide +kernel), List.mem_of_getElem? (i := 771) (by decide +kernel)⟩
theorem lw_p61 : lw_okq (⟨"ConflictPlaces$Solver", "clear", "(I)V"⟩, 8) := ⟨⟨by decide +kernel, by decide +kernel⟩, List.mem_of_getElem? (i := 320) (by decide +kernel), List.mem_of_getElem? (i := 774) (by decide +kernel), List.mem_of_getElem? (i := 775) (by decide +kernel)⟩
theorem lw_p62 : lw_okq (⟨"ConflictPlaces$Solver", "cell", "(III)I"⟩, 8) := ⟨⟨by decide +kernel, by decide +kernel⟩, List.mem_of_getElem? (i := 320) (by decide +kernel), List.mem_of_getElem? (i := 778) (by decide +kernel), List.mem_of_getElem? (i := 779) (by decide +kernel)⟩
theorem lw_p63 : lw_okq (⟨"ConflictPlaces$Solver", "builtIn", "(I)I"⟩, 8) := ⟨⟨by decide +kernel, by decide +kernel⟩, List.mem_of_getElem? (i := 320) (by decide +kernel), List.mem_of_getElem? (i := 782) (by decide +kernel), List.mem_of_getElem? (i := 783) (by decide +kernel)⟩
def lw_privs_4 : List (MethodName × Nat) := [(⟨"ConflictPlaces$Rules", "addBranch", "(LConflictPlaces$Tree;II)V"⟩, 9), (⟨"ConflictPlaces$Rules", "addList", "(LConflictPlaces$Tree;II)V"⟩, 9), (⟨"ConflictPlaces$Rules", "ownVariable", "(I)I"⟩, 9), (⟨"ConflictPlaces$Rules", "addSign", "(IIIII)V"⟩, 9), (⟨"ConflictPlaces$Hunt", "restart", "()V"⟩, 6), (⟨"ConflictPlaces$Mender", "forget", "()V"⟩, 5), (⟨"ConflictPlaces", "isNode", "(I)Z"⟩, 10), (⟨"ConflictPlaces", "isRule", "(I)Z"⟩, 10), (⟨"ConflictPlaces$Rules", "placeOf", "(I)I"⟩, 9), (⟨"ConflictPlaces", "solveAll", "()Z"⟩, 10), (⟨"ConflictPlaces", "solveChosen", "()Z"⟩, 10), (⟨"ConflictPlaces$Solver", "solves", "(LConflictPlaces$Rules;[Z)Z"⟩, 8), (⟨"ConflictPlaces$Rules", "variables", "()I"⟩, 9), (⟨"ConflictPlaces$Solver", "clear", "(I)V"⟩, 8), (⟨"ConflictPlaces$Solver", "cell", "(III)I"⟩, 8), (⟨"ConflictPlaces$Solver", "builtIn", "(I)I"⟩, 8)]
theorem lw_r4 : ∀ q ∈ lw_privs_4, lw_okq q := List.forall_mem_cons.mpr ⟨lw_p48, List.forall_mem_cons.mpr ⟨lw_p49, List.forall_mem_cons.mpr ⟨lw_p50, List.forall_mem_cons.mpr ⟨lw_p51, List.forall_mem_cons.mpr ⟨lw_p52, List.forall_mem_cons.mpr ⟨lw_p53, List.forall_mem_cons.mpr ⟨lw_p54, List.forall_mem_cons.mpr ⟨lw_p55, List.forall_mem_cons.mpr ⟨lw_p56, List.forall_mem_cons.mpr ⟨lw_p57, List.forall_mem_cons.mpr ⟨lw_p58, List.forall_mem_cons.mpr ⟨lw_p59, List.forall_mem_cons.mpr ⟨lw_p60, List.forall_mem_cons.mpr ⟨lw_p61, List.forall_mem_cons.mpr ⟨lw_p62, List.forall_mem_cons.mpr ⟨lw_p63, fun _ h => absurd h List.not_mem_nil⟩⟩⟩⟩⟩⟩⟩⟩⟩⟩⟩⟩⟩⟩⟩⟩
theorem lw_p64 : lw_okq (⟨"ConflictPlaces$Solver", "rightSide", "(LConflictPlaces$Rules;I)I"⟩, 8) := ⟨⟨by decide +kernel, by decide +kernel⟩, List.mem_of_getElem? (i := 320) (by decide +kernel), List.mem_of_getElem? (i := 786) (by decide +kernel), List.mem_of_getElem? (i := 787) (by decide +kernel)⟩
theorem lw_p65 : lw_okq (⟨"ConflictPlaces$Solver", "unify", "(II)Z"⟩, 8) := ⟨⟨by decide +kernel, by decide +kernel⟩, List.mem_of_getElem? (i := 320) (by decide +kernel), List.mem_of_getElem? (i := 790) (by decide +kernel), List.mem_of_getElem? (i := 791) (by decide +kernel)⟩
theorem lw_p66 : lw_okq (⟨"ConflictPlaces$Solver", "push", "(III)I"⟩, 8) := ⟨⟨by decide +kernel, by decide +kernel⟩, List.mem_of_getElem? (i := 320) (by decide +kernel), List.mem_of_getElem? (i := 794) (by decide +kernel), List.mem_of_getElem? (i := 795) (by decide +kernel)⟩
theorem lw_p67 : lw_okq (⟨"ConflictPlaces$Solver", "isCell", "(I)Z"⟩, 8) := ⟨⟨by decide +kernel, by decide +kernel⟩, List.mem_of_getElem? (i := 320) (by decide +kernel), List.mem_of_getElem? (i := 798) (by decide +kernel), List.mem_of_getElem? (i := 799) (by decide +kernel)⟩
theorem lw_p68 : lw_okq (⟨"ConflictPlaces$Solver", "root", "(I)I"⟩, 8) := ⟨⟨by decide +kernel, by decide +kernel⟩, List.mem_of_getElem? (i := 320) (by decide +kernel), List.mem_of_getElem? (i := 802) (by decide +kernel), List.mem_of_getElem? (i := 803) (by decide +kernel)⟩
theorem lw_p69 : lw_okq (⟨"ConflictPlaces$Solver", "isFinite", "()Z"⟩, 8) := ⟨⟨by decide +kernel, by decide +kernel⟩, List.mem_of_getElem? (i := 320) (by decide +kernel), List.mem_of_getElem? (i := 806) (by decide +kernel), List.mem_of_getElem? (i := 807) (by decide +kernel)⟩
theorem lw_p70 : lw_okq (⟨"ConflictPlaces$Solver", "countUses", "()V"⟩, 8) := ⟨⟨by decide +kernel, by decide +kernel⟩, List.mem_of_getElem? (i := 320) (by decide +kernel), List.mem_of_getElem? (i := 810) (by decide +kernel), List.mem_of_getElem? (i := 811) (by decide +kernel)⟩
theorem lw_p71 : lw_okq (⟨"ConflictPlaces$Solver", "release", "(II)I"⟩, 8) := ⟨⟨by decide +kernel, by decide +kernel⟩, List.mem_of_getElem? (i := 320) (by decide +kernel), List.mem_of_getElem? (i := 820) (by decide +kernel), List.mem_of_getElem? (i := 821) (by decide +kernel)⟩
theorem lw_p72 : lw_okq (⟨"ConflictPlaces$Hunt", "step", "(LConflictPlaces$Rules;LConflictPlaces$Solver;)V"⟩, 6) := ⟨⟨by decide +kernel, by decide +kernel⟩, List.mem_of_getElem? (i := 354) (by decide +kernel), List.mem_of_getElem? (i := 832) (by decide +kernel), List.mem_of_getElem? (i := 833) (by decide +kernel)⟩
theorem lw_p73 : lw_okq (⟨"ConflictPlaces$Hunt", "begin", "(LConflictPlaces$Rules;LConflictPlaces$Solver;)V"⟩, 6) := ⟨⟨by decide +kernel, by decide +kernel⟩, List.mem_of_getElem? (i := 354) (by decide +kernel), List.mem_of_getElem? (i := 836) (by decide +kernel), List.mem_of_getElem? (i := 837) (by decide +kernel)⟩
theorem lw_p74 : lw_okq (⟨"ConflictPlaces$Hunt", "freeBelow", "(I)I"⟩, 6) := ⟨⟨by decide +kernel, by decide +kernel⟩, List.mem_of_getElem? (i := 354) (by decide +kernel), List.mem_of_getElem? (i := 841) (by decide +kernel), List.mem_of_getElem? (i := 842) (by decide +kernel)⟩
theorem lw_p75 : lw_okq (⟨"ConflictPlaces$Hunt", "leaveOut", "(LConflictPlaces$Rules;LConflictPlaces$Solver;)V"⟩, 6) := ⟨⟨by decide +kernel, by decide +kernel⟩, List.mem_of_getElem? (i := 354) (by decide +kernel), List.mem_of_getElem? (i := 845) (by decide +kernel), List.mem_of_getElem? (i := 846) (by decide +kernel)⟩
theorem lw_p76 : lw_okq (⟨"ConflictPlaces$Hunt", "keep", "()V"⟩, 6) := ⟨⟨by decide +kernel, by decide +kernel⟩, List.mem_of_getElem? (i := 354) (by decide +kernel), List.mem_of_getElem? (i := 849) (by decide +kernel), List.mem_of_getElem? (i := 850) (by decide +kernel)⟩
theorem lw_p77 : lw_okq (⟨"ConflictPlaces$Hunt", "has", "(I)Z"⟩, 6) := ⟨⟨by decide +kernel, by decide +kernel⟩, List.mem_of_getElem? (i := 354) (by decide +kernel), List.mem_of_getElem? (i := 857) (by decide +kernel), List.mem_of_getElem? (i := 858) (by decide +kernel)⟩
theorem lw_p78 : lw_okq (⟨"ConflictPlaces$Hunt", "sizeOf", "(I)I"⟩, 6) := ⟨⟨by decide +kernel, by decide +kernel⟩, List.mem_of_getElem? (i := 354) (by decide +kernel), List.mem_of_getElem? (i := 861) (by decide +kernel), List.mem_of_getElem? (i := 862) (by decide +kernel)⟩
theorem lw_p79 : lw_okq (⟨"ConflictPlaces$Hunt", "member", "(II)I"⟩, 6) := ⟨⟨by decide +kernel, by decide +kernel⟩, List.mem_of_getElem? (i := 354) (by decide +kernel), List.mem_of_getElem? (i := 865) (by decide +kernel), List.mem_of_getElem? (i := 866) (by decide +kernel)⟩
def lw_privs_5 : List (MethodName × Nat) := [(⟨"ConflictPlaces$Solver", "rightSide", "(LConflictPlaces$Rules;I)I"⟩, 8), (⟨"ConflictPlaces$Solver", "unify", "(II)Z"⟩, 8), (⟨"ConflictPlaces$Solver", "push", "(III)I"⟩, 8), (⟨"ConflictPlaces$Solver", "isCell", "(I)Z"⟩, 8), (⟨"ConflictPlaces$Solver", "root", "(I)I"⟩, 8), (⟨"ConflictPlaces$Solver", "isFinite", "()Z"⟩, 8), (⟨"ConflictPlaces$Solver", "countUses", "()V"⟩, 8), (⟨"ConflictPlaces$Solver", "release", "(II)I"⟩, 8), (⟨"ConflictPlaces$Hunt", "step", "(LConflictPlaces$Rules;LConflictPlaces$Solver;)V"⟩, 6), (⟨"ConflictPlaces$Hunt", "begin", "(LConflictPlaces$Rules;LConflictPlaces$Solver;)V"⟩, 6), (⟨"ConflictPlaces$Hunt", "freeBelow", "(I)I"⟩, 6), (⟨"ConflictPlaces$Hunt", "leaveOut", "(LConflictPlaces$Rules;LConflictPlaces$Solver;)V"⟩, 6), (⟨"ConflictPlaces$Hunt", "keep", "()V"⟩, 6), (⟨"ConflictPlaces$Hunt", "has", "(I)Z"⟩, 6), (⟨"ConflictPlaces$Hunt", "sizeOf", "(I)I"⟩, 6), (⟨"ConflictPlaces$Hunt", "member", "(II)I"⟩, 6)]
theorem lw_r5 : ∀ q ∈ lw_privs_5, lw_okq q := List.forall_mem_cons.mpr ⟨lw_p64, List.forall_mem_cons.mpr ⟨lw_p65, List.forall_mem_cons.mpr ⟨lw_p66, List.forall_mem_cons.mpr ⟨lw_p67, List.forall_mem_cons.mpr ⟨lw_p68, List.forall_mem_cons.mpr ⟨lw_p69, List.forall_mem_cons.mpr ⟨lw_p70, List.forall_mem_cons.mpr ⟨lw_p71, List.forall_mem_cons.mpr ⟨lw_p72, List.forall_mem_cons.mpr ⟨lw_p73, List.forall_mem_cons.mpr ⟨lw_p74, List.forall_mem_cons.mpr ⟨lw_p75, List.forall_mem_cons.mpr ⟨lw_p76, List.forall_mem_cons.mpr ⟨lw_p77, List.forall_mem_cons.mpr ⟨lw_p78, List.forall_mem_cons.mpr ⟨lw_p79, fun _ h => absurd h List.not_mem_nil⟩⟩⟩⟩⟩⟩⟩⟩⟩⟩⟩⟩⟩⟩⟩⟩
theorem lw_p80 : lw_okq (⟨"ConflictPlaces$Writer", "write", "(LConflictPlaces$Solver;I)I"⟩, 8) := ⟨⟨by decide +kernel, by decide +kernel⟩, List.mem_of_getElem? (i := 408) (by decide +kernel), List.mem_of_getElem? (i := 877) (by decide +kernel), List.mem_of_getElem? (i := 878) (by decide +kernel)⟩
theorem lw_p81 : lw_okq (⟨"ConflictPlaces$Writer", "push", "(I)V"⟩, 8) := ⟨⟨by decide +kernel, by decide +kernel⟩, List.mem_of_getElem? (i := 408) (by decide +kernel), List.mem_of_getElem? (i := 881) (by decide +kernel), List.mem_of_getElem? (i := 882) (by decide +kernel)⟩
theorem lw_p82 : lw_okq (⟨"ConflictPlaces$Writer", "writeOne", "(LConflictPlaces$Solver;I)V"⟩, 8) := ⟨⟨by decide +kernel, by decide +kernel⟩, List.mem_of_getElem? (i := 408) (by decide +kernel), List.mem_of_getElem? (i := 885) (by decide +kernel), List.mem_of_getElem? (i := 886) (by decide +kernel)⟩
theorem lw_p83 : lw_okq (⟨"ConflictPlaces$Writer", "put", "(I)V"⟩, 8) := ⟨⟨by decide +kernel, by decide +kernel⟩, List.mem_of_getElem? (i := 408) (by decide +kernel), List.mem_of_getElem? (i := 889) (by decide +kernel), List.mem_of_getElem? (i := 890) (by decide +kernel)⟩
theorem lw_p84 : lw_okq (⟨"ConflictPlaces$Writer", "putWord", "(Ljava/lang/String;)V"⟩, 8) := ⟨⟨by decide +kernel, by decide +kernel⟩, List.mem_of_getElem? (i := 408) (by decide +kernel), List.mem_of_getElem? (i := 895) (by decide +kernel), List.mem_of_getElem? (i := 896) (by decide +kernel)⟩
theorem lw_p85 : lw_okq (⟨"ConflictPlaces$Writer", "pushByte", "(I)V"⟩, 8) := ⟨⟨by decide +kernel, by decide +kernel⟩, List.mem_of_getElem? (i := 408) (by decide +kernel), List.mem_of_getElem? (i := 903) (by decide +kernel), List.mem_of_getElem? (i := 904) (by decide +kernel)⟩
theorem lw_p86 : lw_okq (⟨"ConflictPlaces$Writer", "pushFunction", "(LConflictPlaces$Solver;II)V"⟩, 8) := ⟨⟨by decide +kernel, by decide +kernel⟩, List.mem_of_getElem? (i := 408) (by decide +kernel), List.mem_of_getElem? (i := 907) (by decide +kernel), List.mem_of_getElem? (i := 908) (by decide +kernel)⟩
theorem lw_p87 : lw_okq (⟨"ConflictPlaces$Writer", "putOpen", "(I)V"⟩, 8) := ⟨⟨by decide +kernel, by decide +kernel⟩, List.mem_of_getElem? (i := 408) (by decide +kernel), List.mem_of_getElem? (i := 911) (by decide +kernel), List.mem_of_getElem? (i := 912) (by decide +kernel)⟩
theorem lw_p88 : lw_okq (⟨"ConflictPlaces", "isBinder", "(I)Z"⟩, 10) := ⟨⟨by decide +kernel, by decide +kernel⟩, List.mem_of_getElem? (i := 19) (by decide +kernel), List.mem_of_getElem? (i := 922) (by decide +kernel), List.mem_of_getElem? (i := 923) (by decide +kernel)⟩
theorem lw_p89 : lw_okq (⟨"ConflictPlaces$Mender", "collect", "(LConflictPlaces$Program;LConflictPlaces$Solver;)V"⟩, 5) := ⟨⟨by decide +kernel, by decide +kernel⟩, List.mem_of_getElem? (i := 383) (by decide +kernel), List.mem_of_getElem? (i := 935) (by decide +kernel), List.mem_of_getElem? (i := 936) (by decide +kernel)⟩
theorem lw_p90 : lw_okq (⟨"ConflictPlaces$Mender", "offerNames", "(LConflictPlaces$Program;LConflictPlaces$Solver;I)V"⟩, 5) := ⟨⟨by decide +kernel, by decide +kernel⟩, List.mem_of_getElem? (i := 383) (by decide +kernel), List.mem_of_getElem? (i := 940) (by decide +kernel), List.mem_of_getElem? (i := 941) (by decide +kernel)⟩
theorem lw_p91 : lw_okq (⟨"ConflictPlaces$Rules", "copyAll", "(LConflictPlaces$Rules;)V"⟩, 9) := ⟨⟨by decide +kernel, by decide +kernel⟩, List.mem_of_getElem? (i := 238) (by decide +kernel), List.mem_of_getElem? (i := 944) (by decide +kernel), List.mem_of_getElem? (i := 945) (by decide +kernel)⟩
theorem lw_p92 : lw_okq (⟨"ConflictPlaces$Rules", "silence", "(II)V"⟩, 9) := ⟨⟨by decide +kernel, by decide +kernel⟩, List.mem_of_getElem? (i := 238) (by decide +kernel), List.mem_of_getElem? (i := 949) (by decide +kernel), List.mem_of_getElem? (i := 950) (by decide +kernel)⟩
theorem lw_p93 : lw_okq (⟨"ConflictPlaces$Names", "reaches", "(II)Z"⟩, 9) := ⟨⟨by decide +kernel, by decide +kernel⟩, List.mem_of_getElem? (i := 146) (by decide +kernel), List.mem_of_getElem? (i := 953) (by decide +kernel), List.mem_of_getElem? (i := 954) (by decide +kernel)⟩
theorem lw_p94 : lw_okq (⟨"ConflictPlaces$Mender", "attempt", "(LConflictPlaces$Program;LConflictPlaces$Solver;III)V"⟩, 5) := ⟨⟨by decide +kernel, by decide +kernel⟩, List.mem_of_getElem? (i := 383) (by decide +kernel), List.mem_of_getElem? (i := 957) (by decide +kernel), List.mem_of_getElem? (i := 958) (by decide +kernel)⟩
theorem lw_p95 : lw_okq (⟨"ConflictPlaces$Mender", "edit", "(LConflictPlaces$Program;III)V"⟩, 5) := ⟨⟨by decide +kernel, by decide +kernel⟩, List.mem_of_getElem? (i := 383) (by decide +kernel), List.mem_of_getElem? (i := 961) (by decide +kernel), List.mem_of_getElem? (i := 962) (by decide +kernel)⟩
def lw_privs_6 : List (MethodName × Nat) := [(⟨"ConflictPlaces$Writer", "write", "(LConflictPlaces$Solver;I)I"⟩, 8), (⟨"ConflictPlaces$Writer", "push", "(I)V"⟩, 8), (⟨"ConflictPlaces$Writer", "writeOne", "(LConflictPlaces$Solver;I)V"⟩, 8), (⟨"ConflictPlaces$Writer", "put", "(I)V"⟩, 8), (⟨"ConflictPlaces$Writer", "putWord", "(Ljava/lang/String;)V"⟩, 8), (⟨"ConflictPlaces$Writer", "pushByte", "(I)V"⟩, 8), (⟨"ConflictPlaces$Writer", "pushFunction", "(LConflictPlaces$Solver;II)V"⟩, 8), (⟨"ConflictPlaces$Writer", "putOpen", "(I)V"⟩, 8), (⟨"ConflictPlaces", "isBinder", "(I)Z"⟩, 10), (⟨"ConflictPlaces$Mender", "collect", "(LConflictPlaces$Program;LConflictPlaces$Solver;)V"⟩, 5), (⟨"ConflictPlaces$Mender", "offerNames", "(LConflictPlaces$Program;LConflictPlaces$Solver;I)V"⟩, 5), (⟨"ConflictPlaces$Rules", "copyAll", "(LConflictPlaces$Rules;)V"⟩, 9), (⟨"ConflictPlaces$Rules", "silence", "(II)V"⟩, 9), (⟨"ConflictPlaces$Names", "reaches", "(II)Z"⟩, 9), (⟨"ConflictPlaces$Mender", "attempt", "(LConflictPlaces$Program;LConflictPlaces$Solver;III)V"⟩, 5), (⟨"ConflictPlaces$Mender", "edit", "(LConflictPlaces$Program;III)V"⟩, 5)]
theorem lw_r6 : ∀ q ∈ lw_privs_6, lw_okq q := List.forall_mem_cons.mpr ⟨lw_p80, List.forall_mem_cons.mpr ⟨lw_p81, List.forall_mem_cons.mpr ⟨lw_p82, List.forall_mem_cons.mpr ⟨lw_p83, List.forall_mem_cons.mpr ⟨lw_p84, List.forall_mem_cons.mpr ⟨lw_p85, List.forall_mem_cons.mpr ⟨lw_p86, List.forall_mem_cons.mpr ⟨lw_p87, List.forall_mem_cons.mpr ⟨lw_p88, List.forall_mem_cons.mpr ⟨lw_p89, List.forall_mem_cons.mpr ⟨lw_p90, List.forall_mem_cons.mpr ⟨lw_p91, List.forall_mem_cons.mpr ⟨lw_p92, List.forall_mem_cons.mpr ⟨lw_p93, List.forall_mem_cons.mpr ⟨lw_p94, List.forall_mem_cons.mpr ⟨lw_p95, fun _ h => absurd h List.not_mem_nil⟩⟩⟩⟩⟩⟩⟩⟩⟩⟩⟩⟩⟩⟩⟩⟩
theorem lw_p96 : lw_okq (⟨"ConflictPlaces$Mender", "swap", "(LConflictPlaces$Tree;I)V"⟩, 5) := ⟨⟨by decide +kernel, by decide +kernel⟩, List.mem_of_getElem? (i := 383) (by decide +kernel), List.mem_of_getElem? (i := 966) (by decide +kernel), List.mem_of_getElem? (i := 967) (by decide +kernel)⟩
theorem lw_p97 : lw_okq (⟨"ConflictPlaces$Tree", "callsCall", "(I)Z"⟩, 13) := ⟨⟨by decide +kernel, by decide +kernel⟩, List.mem_of_getElem? (i := 66) (by decide +kernel), List.mem_of_getElem? (i := 970) (by decide +kernel), List.mem_of_getElem? (i := 971) (by decide +kernel)⟩
theorem lw_p98 : lw_okq (⟨"ConflictPlaces$Mender", "addRule", "(LConflictPlaces$Tree;IIII)V"⟩, 5) := ⟨⟨by decide +kernel, by decide +kernel⟩, List.mem_of_getElem? (i := 383) (by decide +kernel), List.mem_of_getElem? (i := 976) (by decide +kernel), List.mem_of_getElem? (i := 977) (by decide +kernel)⟩
theorem lw_p99 : lw_okq (⟨"ConflictPlaces$Mender", "wrapIn", "(LConflictPlaces$Tree;II)V"⟩, 5) := ⟨⟨by decide +kernel, by decide +kernel⟩, List.mem_of_getElem? (i := 383) (by decide +kernel), List.mem_of_getElem? (i := 980) (by decide +kernel), List.mem_of_getElem? (i := 981) (by decide +kernel)⟩
theorem lw_p100 : lw_okq (⟨"ConflictPlaces$Rules", "wrappedVariable", "()I"⟩, 9) := ⟨⟨by decide +kernel, by decide +kernel⟩, List.mem_of_getElem? (i := 238) (by decide +kernel), List.mem_of_getElem? (i := 984) (by decide +kernel), List.mem_of_getElem? (i := 985) (by decide +kernel)⟩
theorem lw_p101 : lw_okq (⟨"ConflictPlaces$Rules", "wrap", "(I)V"⟩, 9) := ⟨⟨by decide +kernel, by decide +kernel⟩, List.mem_of_getElem? (i := 238) (by decide +kernel), List.mem_of_getElem? (i := 988) (by decide +kernel), List.mem_of_getElem? (i := 989) (by decide +kernel)⟩
theorem lw_p102 : lw_okq (⟨"ConflictPlaces$Mender", "offerWraps", "(LConflictPlaces$Program;LConflictPlaces$Solver;I)V"⟩, 5) := ⟨⟨by decide +kernel, by decide +kernel⟩, List.mem_of_getElem? (i := 383) (by decide +kernel), List.mem_of_getElem? (i := 993) (by decide +kernel), List.mem_of_getElem? (i := 994) (by decide +kernel)⟩
theorem lw_p103 : lw_okq (⟨"ConflictPlaces$Mender", "has", "(I)Z"⟩, 5) := ⟨⟨by decide +kernel, by decide +kernel⟩, List.mem_of_getElem? (i := 383) (by decide +kernel), List.mem_of_getElem? (i := 1001) (by decide +kernel), List.mem_of_getElem? (i := 1002) (by decide +kernel)⟩
theorem lw_p104 : lw_okq (⟨"ConflictPlaces$Mender", "sortOf", "(I)I"⟩, 5) := ⟨⟨by decide +kernel, by decide +kernel⟩, List.mem_of_getElem? (i := 383) (by decide +kernel), List.mem_of_getElem? (i := 1005) (by decide +kernel), List.mem_of_getElem? (i := 1006) (by decide +kernel)⟩
theorem lw_p105 : lw_okq (⟨"ConflictPlaces$Mender", "nodeOf", "(I)I"⟩, 5) := ⟨⟨by decide +kernel, by decide +kernel⟩, List.mem_of_getElem? (i := 383) (by decide +kernel), List.mem_of_getElem? (i := 1010) (by decide +kernel), List.mem_of_getElem? (i := 1011) (by decide +kernel)⟩
theorem lw_p106 : lw_okq (⟨"ConflictPlaces$Mender", "meaningOf", "(I)I"⟩, 5) := ⟨⟨by decide +kernel, by decide +kernel⟩, List.mem_of_getElem? (i := 383) (by decide +kernel), List.mem_of_getElem? (i := 1014) (by decide +kernel), List.mem_of_getElem? (i := 1015) (by decide +kernel)⟩
theorem lw_p107 : lw_okq (⟨"ConflictPlaces$Mender", "costOf", "(I)I"⟩, 5) := ⟨⟨by decide +kernel, by decide +kernel⟩, List.mem_of_getElem? (i := 383) (by decide +kernel), List.mem_of_getElem? (i := 1019) (by decide +kernel), List.mem_of_getElem? (i := 1020) (by decide +kernel)⟩
theorem lw_p108 : lw_okq (⟨"ConflictPlaces$Mender", "solvesWith", "(LConflictPlaces$Program;LConflictPlaces$Solver;I)Z"⟩, 5) := ⟨⟨by decide +kernel, by decide +kernel⟩, List.mem_of_getElem? (i := 383) (by decide +kernel), List.mem_of_getElem? (i := 1029) (by decide +kernel), List.mem_of_getElem? (i := 1030) (by decide +kernel)⟩
theorem lw_p109 : lw_okq (⟨"ConflictPlaces$Writer", "byteAt", "(I)I"⟩, 8) := ⟨⟨by decide +kernel, by decide +kernel⟩, List.mem_of_getElem? (i := 408) (by decide +kernel), List.mem_of_getElem? (i := 1039) (by decide +kernel), List.mem_of_getElem? (i := 1040) (by decide +kernel)⟩
theorem lw_p110 : lw_okq (⟨"ConflictPlacesModel", "next", "()V"⟩, 104) := ⟨⟨by decide +kernel, by decide +kernel⟩, List.mem_of_getElem? (i := 1043) (by decide +kernel), List.mem_of_getElem? (i := 1381) (by decide +kernel), List.mem_of_getElem? (i := 1382) (by decide +kernel)⟩
theorem lw_p111 : lw_okq (⟨"ConflictPlacesModel", "isLetter", "(I)Z"⟩, 104) := ⟨⟨by decide +kernel, by decide +kernel⟩, List.mem_of_getElem? (i := 1043) (by decide +kernel), List.mem_of_getElem? (i := 1385) (by decide +kernel), List.mem_of_getElem? (i := 1386) (by decide +kernel)⟩
def lw_privs_7 : List (MethodName × Nat) := [(⟨"ConflictPlaces$Mender", "swap", "(LConflictPlaces$Tree;I)V"⟩, 5), (⟨"ConflictPlaces$Tree", "callsCall", "(I)Z"⟩, 13), (⟨"ConflictPlaces$Mender", "addRule", "(LConflictPlaces$Tree;IIII)V"⟩, 5), (⟨"ConflictPlaces$Mender", "wrapIn", "(LConflictPlaces$Tree;II)V"⟩, 5), (⟨"ConflictPlaces$Rules", "wrappedVariable", "()I"⟩, 9), (⟨"ConflictPlaces$Rules", "wrap", "(I)V"⟩, 9), (⟨"ConflictPlaces$Mender", "offerWraps", "(LConflictPlaces$Program;LConflictPlaces$Solver;I)V"⟩, 5), (⟨"ConflictPlaces$Mender", "has", "(I)Z"⟩, 5), (⟨"ConflictPlaces$Mender", "sortOf", "(I)I"⟩, 5), (⟨"ConflictPlaces$Mender", "nodeOf", "(I)I"⟩, 5), (⟨"ConflictPlaces$Mender", "meaningOf", "(I)I"⟩, 5), (⟨"ConflictPlaces$Mender", "costOf", "(I)I"⟩, 5), (⟨"ConflictPlaces$Mender", "solvesWith", "(LConflictPlaces$Program;LConflictPlaces$Solver;I)Z"⟩, 5), (⟨"ConflictPlaces$Writer", "byteAt", "(I)I"⟩, 8), (⟨"ConflictPlacesModel", "next", "()V"⟩, 104), (⟨"ConflictPlacesModel", "isLetter", "(I)Z"⟩, 104)]
theorem lw_r7 : ∀ q ∈ lw_privs_7, lw_okq q := List.forall_mem_cons.mpr ⟨lw_p96, List.forall_mem_cons.mpr ⟨lw_p97, List.forall_mem_cons.mpr ⟨lw_p98, List.forall_mem_cons.mpr ⟨lw_p99, List.forall_mem_cons.mpr ⟨lw_p100, List.forall_mem_cons.mpr ⟨lw_p101, List.forall_mem_cons.mpr ⟨lw_p102, List.forall_mem_cons.mpr ⟨lw_p103, List.forall_mem_cons.mpr ⟨lw_p104, List.forall_mem_cons.mpr ⟨lw_p105, List.forall_mem_cons.mpr ⟨lw_p106, List.forall_mem_cons.mpr ⟨lw_p107, List.forall_mem_cons.mpr ⟨lw_p108, List.forall_mem_cons.mpr ⟨lw_p109, List.forall_mem_cons.mpr ⟨lw_p110, List.forall_mem_cons.mpr ⟨lw_p111, fun _ h => absurd h List.not_mem_nil⟩⟩⟩⟩⟩⟩⟩⟩⟩⟩⟩⟩⟩⟩⟩⟩
theorem lw_p112 : lw_okq (⟨"ConflictPlacesModel", "isDigit", "(I)Z"⟩, 104) := ⟨⟨by decide +kernel, by decide +kernel⟩, List.mem_of_getElem? (i := 1043) (by decide +kernel), List.mem_of_getElem? (i := 1389) (by decide +kernel), List.mem_of_getElem? (i := 1390) (by decide +kernel)⟩
theorem lw_p113 : lw_okq (⟨"ConflictPlacesModel", "follows", "(I)Z"⟩, 104) := ⟨⟨by decide +kernel, by decide +kernel⟩, List.mem_of_getElem? (i := 1043) (by decide +kernel), List.mem_of_getElem? (i := 1393) (by decide +kernel), List.mem_of_getElem? (i := 1394) (by decide +kernel)⟩
theorem lw_p114 : lw_okq (⟨"ConflictPlacesModel", "decl", "()Z"⟩, 104) := ⟨⟨by decide +kernel, by decide +kernel⟩, List.mem_of_getElem? (i := 1043) (by decide +kernel), List.mem_of_getElem? (i := 1397) (by decide +kernel), List.mem_of_getElem? (i := 1398) (by decide +kernel)⟩
theorem lw_p115 : lw_okq (⟨"ConflictPlacesModel", "isName", "()Z"⟩, 104) := ⟨⟨by decide +kernel, by decide +kernel⟩, List.mem_of_getElem? (i := 1043) (by decide +kernel), List.mem_of_getElem? (i := 1401) (by decide +kernel), List.mem_of_getElem? (i := 1402) (by decide +kernel)⟩
theorem lw_p116 : lw_okq (⟨"ConflictPlacesModel", "isKey", "()Z"⟩, 104) := ⟨⟨by decide +kernel, by decide +kernel⟩, List.mem_of_getElem? (i := 1043) (by decide +kernel), List.mem_of_getElem? (i := 1405) (by decide +kernel), List.mem_of_getElem? (i := 1406) (by decide +kernel)⟩
theorem lw_p117 : lw_okq (⟨"ConflictPlacesModel", "bind", "(II)I"⟩, 104) := ⟨⟨by decide +kernel, by decide +kernel⟩, List.mem_of_getElem? (i := 1043) (by decide +kernel), List.mem_of_getElem? (i := 1412) (by decide +kernel), List.mem_of_getElem? (i := 1413) (by decide +kernel)⟩
theorem lw_p118 : lw_okq (⟨"ConflictPlacesModel", "isSign", "(I)Z"⟩, 104) := ⟨⟨by decide +kernel, by decide +kernel⟩, List.mem_of_getElem? (i := 1043) (by decide +kernel), List.mem_of_getElem? (i := 1416) (by decide +kernel), List.mem_of_getElem? (i := 1417) (by decide +kernel)⟩
theorem lw_p119 : lw_okq (⟨"ConflictPlacesModel", "push", "(II)V"⟩, 104) := ⟨⟨by decide +kernel, by decide +kernel⟩, List.mem_of_getElem? (i := 1043) (by decide +kernel), List.mem_of_getElem? (i := 1420) (by decide +kernel), List.mem_of_getElem? (i := 1421) (by decide +kernel)⟩
theorem lw_p120 : lw_okq (⟨"ConflictPlacesModel", "begins", "()Z"⟩, 104) := ⟨⟨by decide +kernel, by decide +kernel⟩, List.mem_of_getElem? (i := 1043) (by decide +kernel), List.mem_of_getElem? (i := 1424) (by decide +kernel), List.mem_of_getElem? (i := 1425) (by decide +kernel)⟩
theorem lw_p121 : lw_okq (⟨"ConflictPlacesModel", "make", "(I)I"⟩, 104) := ⟨⟨by decide +kernel, by decide +kernel⟩, List.mem_of_getElem? (i := 1043) (by decide +kernel), List.mem_of_getElem? (i := 1428) (by decide +kernel), List.mem_of_getElem? (i := 1429) (by decide +kernel)⟩
theorem lw_p122 : lw_okq (⟨"ConflictPlacesModel", "atoms", "()Z"⟩, 104) := ⟨⟨by decide +kernel, by decide +kernel⟩, List.mem_of_getElem? (i := 1043) (by decide +kernel), List.mem_of_getElem? (i := 1432) (by decide +kernel), List.mem_of_getElem? (i := 1433) (by decide +kernel)⟩
theorem lw_p123 : lw_okq (⟨"ConflictPlacesModel", "isAtom", "()Z"⟩, 104) := ⟨⟨by decide +kernel, by decide +kernel⟩, List.mem_of_getElem? (i := 1043) (by decide +kernel), List.mem_of_getElem? (i := 1436) (by decide +kernel), List.mem_of_getElem? (i := 1437) (by decide +kernel)⟩
theorem lw_p124 : lw_okq (⟨"ConflictPlacesModel", "calls", "()V"⟩, 104) := ⟨⟨by decide +kernel, by decide +kernel⟩, List.mem_of_getElem? (i := 1043) (by decide +kernel), List.mem_of_getElem? (i := 1440) (by decide +kernel), List.mem_of_getElem? (i := 1441) (by decide +kernel)⟩
theorem lw_p125 : lw_okq (⟨"ConflictPlacesModel", "pop", "()V"⟩, 104) := ⟨⟨by decide +kernel, by decide +kernel⟩, List.mem_of_getElem? (i := 1043) (by decide +kernel), List.mem_of_getElem? (i := 1444) (by decide +kernel), List.mem_of_getElem? (i := 1445) (by decide +kernel)⟩
theorem lw_p126 : lw_okq (⟨"ConflictPlacesModel", "atom", "(I)V"⟩, 104) := ⟨⟨by decide +kernel, by decide +kernel⟩, List.mem_of_getElem? (i := 1043) (by decide +kernel), List.mem_of_getElem? (i := 1448) (by decide +kernel), List.mem_of_getElem? (i := 1449) (by decide +kernel)⟩
theorem lw_p127 : lw_okq (⟨"ConflictPlacesModel", "signOf", "()I"⟩, 104) := ⟨⟨by decide +kernel, by decide +kernel⟩, List.mem_of_getElem? (i := 1043) (by decide +kernel), List.mem_of_getElem? (i := 1452) (by decide +kernel), List.mem_of_getElem? (i := 1453) (by decide +kernel)⟩
def lw_privs_8 : List (MethodName × Nat) := [(⟨"ConflictPlacesModel", "isDigit", "(I)Z"⟩, 104), (⟨"ConflictPlacesModel", "follows", "(I)Z"⟩, 104), (⟨"ConflictPlacesModel", "decl", "()Z"⟩, 104), (⟨"ConflictPlacesModel", "isName", "()Z"⟩, 104), (⟨"ConflictPlacesModel", "isKey", "()Z"⟩, 104), (⟨"ConflictPlacesModel", "bind", "(II)I"⟩, 104), (⟨"ConflictPlacesModel", "isSign", "(I)Z"⟩, 104), (⟨"ConflictPlacesModel", "push", "(II)V"⟩, 104), (⟨"ConflictPlacesModel", "begins", "()Z"⟩, 104), (⟨"ConflictPlacesModel", "make", "(I)I"⟩, 104), (⟨"ConflictPlacesModel", "atoms", "()Z"⟩, 104), (⟨"ConflictPlacesModel", "isAtom", "()Z"⟩, 104), (⟨"ConflictPlacesModel", "calls", "()V"⟩, 104), (⟨"ConflictPlacesModel", "pop", "()V"⟩, 104), (⟨"ConflictPlacesModel", "atom", "(I)V"⟩, 104), (⟨"ConflictPlacesModel", "signOf", "()I"⟩, 104)]
theorem lw_r8 : ∀ q ∈ lw_privs_8, lw_okq q := List.forall_mem_cons.mpr ⟨lw_p112, List.forall_mem_cons.mpr ⟨lw_p113, List.forall_mem_cons.mpr ⟨lw_p114, List.forall_mem_cons.mpr ⟨lw_p115, List.forall_mem_cons.mpr ⟨lw_p116, List.forall_mem_cons.mpr ⟨lw_p117, List.forall_mem_cons.mpr ⟨lw_p118, List.forall_mem_cons.mpr ⟨lw_p119, List.forall_mem_cons.mpr ⟨lw_p120, List.forall_mem_cons.mpr ⟨lw_p121, List.forall_mem_cons.mpr ⟨lw_p122, List.forall_mem_cons.mpr ⟨lw_p123, List.forall_mem_cons.mpr ⟨lw_p124, List.forall_mem_cons.mpr ⟨lw_p125, List.forall_mem_cons.mpr ⟨lw_p126, List.forall_mem_cons.mpr ⟨lw_p127, fun _ h => absurd h List.not_mem_nil⟩⟩⟩⟩⟩⟩⟩⟩⟩⟩⟩⟩⟩⟩⟩⟩
theorem lw_p128 : lw_okq (⟨"ConflictPlacesModel", "sits", "(I)Z"⟩, 104) := ⟨⟨by decide +kernel, by decide +kernel⟩, List.mem_of_getElem? (i := 1043) (by decide +kernel), List.mem_of_getElem? (i := 1456) (by decide +kernel), List.mem_of_getElem? (i := 1457) (by decide +kernel)⟩
theorem lw_p129 : lw_okq (⟨"ConflictPlacesModel", "levelOf", "(I)I"⟩, 104) := ⟨⟨by decide +kernel, by decide +kernel⟩, List.mem_of_getElem? (i := 1043) (by decide +kernel), List.mem_of_getElem? (i := 1460) (by decide +kernel), List.mem_of_getElem? (i := 1461) (by decide +kernel)⟩
theorem lw_p130 : lw_okq (⟨"ConflictPlacesModel", "reduce", "(IZ)V"⟩, 104) := ⟨⟨by decide +kernel, by decide +kernel⟩, List.mem_of_getElem? (i := 1043) (by decide +kernel), List.mem_of_getElem? (i := 1464) (by decide +kernel), List.mem_of_getElem? (i := 1465) (by decide +kernel)⟩
theorem lw_p131 : lw_okq (⟨"ConflictPlacesModel", "ends", "()Z"⟩, 104) := ⟨⟨by decide +kernel, by decide +kernel⟩, List.mem_of_getElem? (i := 1043) (by decide +kernel), List.mem_of_getElem? (i := 1468) (by decide +kernel), List.mem_of_getElem? (i := 1469) (by decide +kernel)⟩
theorem lw_p132 : lw_okq (⟨"ConflictPlacesModel", "ended", "(I)Z"⟩, 104) := ⟨⟨by decide +kernel, by decide +kernel⟩, List.mem_of_getElem? (i := 1043) (by decide +kernel), List.mem_of_getElem? (i := 1472) (by decide +kernel), List.mem_of_getElem? (i := 1473) (by decide +kernel)⟩
theorem lw_p133 : lw_okq (⟨"ConflictPlacesModel", "closes", "(II)Z"⟩, 104) := ⟨⟨by decide +kernel, by decide +kernel⟩, List.mem_of_getElem? (i := 1043) (by decide +kernel), List.mem_of_getElem? (i := 1476) (by decide +kernel), List.mem_of_getElem? (i := 1477) (by decide +kernel)⟩
theorem lw_p134 : lw_okq (⟨"ConflictPlacesModel", "rows", "(III)Z"⟩, 104) := ⟨⟨by decide +kernel, by decide +kernel⟩, List.mem_of_getElem? (i := 1043) (by decide +kernel), List.mem_of_getElem? (i := 1480) (by decide +kernel), List.mem_of_getElem? (i := 1481) (by decide +kernel)⟩
theorem lw_p135 : lw_okq (⟨"ConflictPlacesModel", "wrongName", "()I"⟩, 104) := ⟨⟨by decide +kernel, by decide +kernel⟩, List.mem_of_getElem? (i := 1043) (by decide +kernel), List.mem_of_getElem? (i := 1484) (by decide +kernel), List.mem_of_getElem? (i := 1485) (by decide +kernel)⟩
theorem lw_p136 : lw_okq (⟨"ConflictPlacesModel", "meaning", "(JIIZ)I"⟩, 104) := ⟨⟨by decide +kernel, by decide +kernel⟩, List.mem_of_getElem? (i := 1043) (by decide +kernel), List.mem_of_getElem? (i := 1488) (by decide +kernel), List.mem_of_getElem? (i := 1489) (by decide +kernel)⟩
theorem lw_p137 : lw_okq (⟨"ConflictPlacesModel", "settle", "()V"⟩, 104) := ⟨⟨by decide +kernel, by decide +kernel⟩, List.mem_of_getElem? (i := 1043) (by decide +kernel), List.mem_of_getElem? (i := 1492) (by decide +kernel), List.mem_of_getElem? (i := 1493) (by decide +kernel)⟩
theorem lw_p138 : lw_okq (⟨"ConflictPlacesModel", "renamed", "(I)I"⟩, 104) := ⟨⟨by decide +kernel, by decide +kernel⟩, List.mem_of_getElem? (i := 1043) (by decide +kernel), List.mem_of_getElem? (i := 1496) (by decide +kernel), List.mem_of_getElem? (i := 1497) (by decide +kernel)⟩
theorem lw_p139 : lw_okq (⟨"ConflictPlacesModel", "addRule", "(IIIII)V"⟩, 104) := ⟨⟨by decide +kernel, by decide +kernel⟩, List.mem_of_getElem? (i := 1043) (by decide +kernel), List.mem_of_getElem? (i := 1500) (by decide +kernel), List.mem_of_getElem? (i := 1501) (by decide +kernel)⟩
theorem lw_p140 : lw_okq (⟨"ConflictPlacesModel", "addRules", "(II)V"⟩, 104) := ⟨⟨by decide +kernel, by decide +kernel⟩, List.mem_of_getElem? (i := 1043) (by decide +kernel), List.mem_of_getElem? (i := 1504) (by decide +kernel), List.mem_of_getElem? (i := 1505) (by decide +kernel)⟩
theorem lw_p141 : lw_okq (⟨"ConflictPlacesModel", "addThree", "(IIIII)V"⟩, 104) := ⟨⟨by decide +kernel, by decide +kernel⟩, List.mem_of_getElem? (i := 1043) (by decide +kernel), List.mem_of_getElem? (i := 1508) (by decide +kernel), List.mem_of_getElem? (i := 1509) (by decide +kernel)⟩
theorem lw_p142 : lw_okq (⟨"ConflictPlacesModel", "sortRules", "()V"⟩, 104) := ⟨⟨by decide +kernel, by decide +kernel⟩, List.mem_of_getElem? (i := 1043) (by decide +kernel), List.mem_of_getElem? (i := 1512) (by decide +kernel), List.mem_of_getElem? (i := 1513) (by decide +kernel)⟩
theorem lw_p143 : lw_okq (⟨"ConflictPlacesModel", "allFit", "()Z"⟩, 104) := ⟨⟨by decide +kernel, by decide +kernel⟩, List.mem_of_getElem? (i := 1043) (by decide +kernel), List.mem_of_getElem? (i := 1520) (by decide +kernel), List.mem_of_getElem? (i := 1521) (by decide +kernel)⟩
def lw_privs_9 : List (MethodName × Nat) := [(⟨"ConflictPlacesModel", "sits", "(I)Z"⟩, 104), (⟨"ConflictPlacesModel", "levelOf", "(I)I"⟩, 104), (⟨"ConflictPlacesModel", "reduce", "(IZ)V"⟩, 104), (⟨"ConflictPlacesModel", "ends", "()Z"⟩, 104), (⟨"ConflictPlacesModel", "ended", "(I)Z"⟩, 104), (⟨"ConflictPlacesModel", "closes", "(II)Z"⟩, 104), (⟨"ConflictPlacesModel", "rows", "(III)Z"⟩, 104), (⟨"ConflictPlacesModel", "wrongName", "()I"⟩, 104), (⟨"ConflictPlacesModel", "meaning", "(JIIZ)I"⟩, 104), (⟨"ConflictPlacesModel", "settle", "()V"⟩, 104), (⟨"ConflictPlacesModel", "renamed", "(I)I"⟩, 104), (⟨"ConflictPlacesModel", "addRule", "(IIIII)V"⟩, 104), (⟨"ConflictPlacesModel", "addRules", "(II)V"⟩, 104), (⟨"ConflictPlacesModel", "addThree", "(IIIII)V"⟩, 104), (⟨"ConflictPlacesModel", "sortRules", "()V"⟩, 104), (⟨"ConflictPlacesModel", "allFit", "()Z"⟩, 104)]
theorem lw_r9 : ∀ q ∈ lw_privs_9, lw_okq q := List.forall_mem_cons.mpr ⟨lw_p128, List.forall_mem_cons.mpr ⟨lw_p129, List.forall_mem_cons.mpr ⟨lw_p130, List.forall_mem_cons.mpr ⟨lw_p131, List.forall_mem_cons.mpr ⟨lw_p132, List.forall_mem_cons.mpr ⟨lw_p133, List.forall_mem_cons.mpr ⟨lw_p134, List.forall_mem_cons.mpr ⟨lw_p135, List.forall_mem_cons.mpr ⟨lw_p136, List.forall_mem_cons.mpr ⟨lw_p137, List.forall_mem_cons.mpr ⟨lw_p138, List.forall_mem_cons.mpr ⟨lw_p139, List.forall_mem_cons.mpr ⟨lw_p140, List.forall_mem_cons.mpr ⟨lw_p141, List.forall_mem_cons.mpr ⟨lw_p142, List.forall_mem_cons.mpr ⟨lw_p143, fun _ h => absurd h List.not_mem_nil⟩⟩⟩⟩⟩⟩⟩⟩⟩⟩⟩⟩⟩⟩⟩⟩
theorem lw_p144 : lw_okq (⟨"ConflictPlacesModel", "haveTypes", "()Z"⟩, 104) := ⟨⟨by decide +kernel, by decide +kernel⟩, List.mem_of_getElem? (i := 1043) (by decide +kernel), List.mem_of_getElem? (i := 1524) (by decide +kernel), List.mem_of_getElem? (i := 1525) (by decide +kernel)⟩
theorem lw_p145 : lw_okq (⟨"ConflictPlacesModel", "open", "()I"⟩, 104) := ⟨⟨by decide +kernel, by decide +kernel⟩, List.mem_of_getElem? (i := 1043) (by decide +kernel), List.mem_of_getElem? (i := 1528) (by decide +kernel), List.mem_of_getElem? (i := 1529) (by decide +kernel)⟩
theorem lw_p146 : lw_okq (⟨"ConflictPlacesModel", "link", "(III)I"⟩, 104) := ⟨⟨by decide +kernel, by decide +kernel⟩, List.mem_of_getElem? (i := 1043) (by decide +kernel), List.mem_of_getElem? (i := 1532) (by decide +kernel), List.mem_of_getElem? (i := 1533) (by decide +kernel)⟩
theorem lw_p147 : lw_okq (⟨"ConflictPlacesModel", "join", "(II)V"⟩, 104) := ⟨⟨by decide +kernel, by decide +kernel⟩, List.mem_of_getElem? (i := 1043) (by decide +kernel), List.mem_of_getElem? (i := 1536) (by decide +kernel), List.mem_of_getElem? (i := 1537) (by decide +kernel)⟩
theorem lw_p148 : lw_okq (⟨"ConflictPlacesModel", "end", "(I)I"⟩, 104) := ⟨⟨by decide +kernel, by decide +kernel⟩, List.mem_of_getElem? (i := 1043) (by decide +kernel), List.mem_of_getElem? (i := 1540) (by decide +kernel), List.mem_of_getElem? (i := 1541) (by decide +kernel)⟩
theorem lw_p149 : lw_okq (⟨"ConflictPlacesModel", "isGone", "(I)Z"⟩, 104) := ⟨⟨by decide +kernel, by decide +kernel⟩, List.mem_of_getElem? (i := 1043) (by decide +kernel), List.mem_of_getElem? (i := 1544) (by decide +kernel), List.mem_of_getElem? (i := 1545) (by decide +kernel)⟩
theorem lw_p150 : lw_okq (⟨"ConflictPlacesModel", "isIn", "(II)Z"⟩, 104) := ⟨⟨by decide +kernel, by decide +kernel⟩, List.mem_of_getElem? (i := 1043) (by decide +kernel), List.mem_of_getElem? (i := 1548) (by decide +kernel), List.mem_of_getElem? (i := 1549) (by decide +kernel)⟩
theorem lw_p151 : lw_okq (⟨"ConflictPlacesModel", "hold", "(I)V"⟩, 104) := ⟨⟨by decide +kernel, by decide +kernel⟩, List.mem_of_getElem? (i := 1043) (by decide +kernel), List.mem_of_getElem? (i := 1552) (by decide +kernel), List.mem_of_getElem? (i := 1553) (by decide +kernel)⟩
theorem lw_p152 : lw_okq (⟨"ConflictPlacesModel", "seen", "(I)I"⟩, 104) := ⟨⟨by decide +kernel, by decide +kernel⟩, List.mem_of_getElem? (i := 1043) (by decide +kernel), List.mem_of_getElem? (i := 1556) (by decide +kernel), List.mem_of_getElem? (i := 1557) (by decide +kernel)⟩
theorem lw_p153 : lw_okq (⟨"ConflictPlacesModel", "sortOfRule", "(I)I"⟩, 104) := ⟨⟨by decide +kernel, by decide +kernel⟩, List.mem_of_getElem? (i := 1043) (by decide +kernel), List.mem_of_getElem? (i := 1560) (by decide +kernel), List.mem_of_getElem? (i := 1561) (by decide +kernel)⟩
theorem lw_p154 : lw_okq (⟨"ConflictPlacesModel", "argumentOf", "(I)I"⟩, 104) := ⟨⟨by decide +kernel, by decide +kernel⟩, List.mem_of_getElem? (i := 1043) (by decide +kernel), List.mem_of_getElem? (i := 1564) (by decide +kernel), List.mem_of_getElem? (i := 1565) (by decide +kernel)⟩
theorem lw_p155 : lw_okq (⟨"ConflictPlacesModel", "builtInType", "(I)I"⟩, 104) := ⟨⟨by decide +kernel, by decide +kernel⟩, List.mem_of_getElem? (i := 1043) (by decide +kernel), List.mem_of_getElem? (i := 1568) (by decide +kernel), List.mem_of_getElem? (i := 1569) (by decide +kernel)⟩
theorem lw_p156 : lw_okq (⟨"ConflictPlacesModel", "holdMore", "(IIII)V"⟩, 104) := ⟨⟨by decide +kernel, by decide +kernel⟩, List.mem_of_getElem? (i := 1043) (by decide +kernel), List.mem_of_getElem? (i := 1572) (by decide +kernel), List.mem_of_getElem? (i := 1573) (by decide +kernel)⟩
theorem lw_p157 : lw_okq (⟨"ConflictPlacesModel", "isEndless", "()Z"⟩, 104) := ⟨⟨by decide +kernel, by decide +kernel⟩, List.mem_of_getElem? (i := 1043) (by decide +kernel), List.mem_of_getElem? (i := 1576) (by decide +kernel), List.mem_of_getElem? (i := 1577) (by decide +kernel)⟩
theorem lw_p158 : lw_okq (⟨"ConflictPlacesModel", "isBetween", "(III)Z"⟩, 104) := ⟨⟨by decide +kernel, by decide +kernel⟩, List.mem_of_getElem? (i := 1043) (by decide +kernel), List.mem_of_getElem? (i := 1588) (by decide +kernel), List.mem_of_getElem? (i := 1589) (by decide +kernel)⟩
theorem lw_p159 : lw_okq (⟨"ConflictPlacesModel", "isNode", "(I)Z"⟩, 104) := ⟨⟨by decide +kernel, by decide +kernel⟩, List.mem_of_getElem? (i := 1043) (by decide +kernel), List.mem_of_getElem? (i := 1597) (by decide +kernel), List.mem_of_getElem? (i := 1598) (by decide +kernel)⟩
def lw_privs_10 : List (MethodName × Nat) := [(⟨"ConflictPlacesModel", "haveTypes", "()Z"⟩, 104), (⟨"ConflictPlacesModel", "open", "()I"⟩, 104), (⟨"ConflictPlacesModel", "link", "(III)I"⟩, 104), (⟨"ConflictPlacesModel", "join", "(II)V"⟩, 104), (⟨"ConflictPlacesModel", "end", "(I)I"⟩, 104), (⟨"ConflictPlacesModel", "isGone", "(I)Z"⟩, 104), (⟨"ConflictPlacesModel", "isIn", "(II)Z"⟩, 104), (⟨"ConflictPlacesModel", "hold", "(I)V"⟩, 104), (⟨"ConflictPlacesModel", "seen", "(I)I"⟩, 104), (⟨"ConflictPlacesModel", "sortOfRule", "(I)I"⟩, 104), (⟨"ConflictPlacesModel", "argumentOf", "(I)I"⟩, 104), (⟨"ConflictPlacesModel", "builtInType", "(I)I"⟩, 104), (⟨"ConflictPlacesModel", "holdMore", "(IIII)V"⟩, 104), (⟨"ConflictPlacesModel", "isEndless", "()Z"⟩, 104), (⟨"ConflictPlacesModel", "isBetween", "(III)Z"⟩, 104), (⟨"ConflictPlacesModel", "isNode", "(I)Z"⟩, 104)]
theorem lw_r10 : ∀ q ∈ lw_privs_10, lw_okq q := List.forall_mem_cons.mpr ⟨lw_p144, List.forall_mem_cons.mpr ⟨lw_p145, List.forall_mem_cons.mpr ⟨lw_p146, List.forall_mem_cons.mpr ⟨lw_p147, List.forall_mem_cons.mpr ⟨lw_p148, List.forall_mem_cons.mpr ⟨lw_p149, List.forall_mem_cons.mpr ⟨lw_p150, List.forall_mem_cons.mpr ⟨lw_p151, List.forall_mem_cons.mpr ⟨lw_p152, List.forall_mem_cons.mpr ⟨lw_p153, List.forall_mem_cons.mpr ⟨lw_p154, List.forall_mem_cons.mpr ⟨lw_p155, List.forall_mem_cons.mpr ⟨lw_p156, List.forall_mem_cons.mpr ⟨lw_p157, List.forall_mem_cons.mpr ⟨lw_p158, List.forall_mem_cons.mpr ⟨lw_p159, fun _ h => absurd h List.not_mem_nil⟩⟩⟩⟩⟩⟩⟩⟩⟩⟩⟩⟩⟩⟩⟩⟩
theorem lw_p160 : lw_okq (⟨"ConflictPlacesModel", "oneWork", "()V"⟩, 104) := ⟨⟨by decide +kernel, by decide +kernel⟩, List.mem_of_getElem? (i := 1043) (by decide +kernel), List.mem_of_getElem? (i := 1609) (by decide +kernel), List.mem_of_getElem? (i := 1610) (by decide +kernel)⟩
theorem lw_p161 : lw_okq (⟨"ConflictPlacesModel", "sized", "(I)I"⟩, 104) := ⟨⟨by decide +kernel, by decide +kernel⟩, List.mem_of_getElem? (i := 1043) (by decide +kernel), List.mem_of_getElem? (i := 1617) (by decide +kernel), List.mem_of_getElem? (i := 1618) (by decide +kernel)⟩
theorem lw_p162 : lw_okq (⟨"ConflictPlacesModel", "inSet", "(II)I"⟩, 104) := ⟨⟨by decide +kernel, by decide +kernel⟩, List.mem_of_getElem? (i := 1043) (by decide +kernel), List.mem_of_getElem? (i := 1621) (by decide +kernel), List.mem_of_getElem? (i := 1622) (by decide +kernel)⟩
theorem lw_p163 : lw_okq (⟨"ConflictPlacesModel", "write", "(I)I"⟩, 104) := ⟨⟨by decide +kernel, by decide +kernel⟩, List.mem_of_getElem? (i := 1043) (by decide +kernel), List.mem_of_getElem? (i := 1633) (by decide +kernel), List.mem_of_getElem? (i := 1634) (by decide +kernel)⟩
theorem lw_p164 : lw_okq (⟨"ConflictPlacesModel", "say", "(I)V"⟩, 104) := ⟨⟨by decide +kernel, by decide +kernel⟩, List.mem_of_getElem? (i := 1043) (by decide +kernel), List.mem_of_getElem? (i := 1637) (by decide +kernel), List.mem_of_getElem? (i := 1638) (by decide +kernel)⟩
theorem lw_p165 : lw_okq (⟨"ConflictPlacesModel", "sayLetter", "(I)V"⟩, 104) := ⟨⟨by decide +kernel, by decide +kernel⟩, List.mem_of_getElem? (i := 1043) (by decide +kernel), List.mem_of_getElem? (i := 1641) (by decide +kernel), List.mem_of_getElem? (i := 1642) (by decide +kernel)⟩
theorem lw_p166 : lw_okq (⟨"ConflictPlacesModel", "saySimple", "(I)V"⟩, 104) := ⟨⟨by decide +kernel, by decide +kernel⟩, List.mem_of_getElem? (i := 1043) (by decide +kernel), List.mem_of_getElem? (i := 1645) (by decide +kernel), List.mem_of_getElem? (i := 1646) (by decide +kernel)⟩
theorem lw_p167 : lw_okq (⟨"ConflictPlacesModel", "isBinder", "(I)Z"⟩, 104) := ⟨⟨by decide +kernel, by decide +kernel⟩, List.mem_of_getElem? (i := 1043) (by decide +kernel), List.mem_of_getElem? (i := 1657) (by decide +kernel), List.mem_of_getElem? (i := 1658) (by decide +kernel)⟩
theorem lw_p168 : lw_okq (⟨"ConflictPlacesModel", "offer", "()V"⟩, 104) := ⟨⟨by decide +kernel, by decide +kernel⟩, List.mem_of_getElem? (i := 1043) (by decide +kernel), List.mem_of_getElem? (i := 1673) (by decide +kernel), List.mem_of_getElem? (i := 1674) (by decide +kernel)⟩
theorem lw_p169 : lw_okq (⟨"ConflictPlacesModel", "tries", "(III)V"⟩, 104) := ⟨⟨by decide +kernel, by decide +kernel⟩, List.mem_of_getElem? (i := 1043) (by decide +kernel), List.mem_of_getElem? (i := 1677) (by decide +kernel), List.mem_of_getElem? (i := 1678) (by decide +kernel)⟩
theorem lw_p170 : lw_okq (⟨"ConflictPlacesModel", "costOf", "(I)I"⟩, 104) := ⟨⟨by decide +kernel, by decide +kernel⟩, List.mem_of_getElem? (i := 1043) (by decide +kernel), List.mem_of_getElem? (i := 1681) (by decide +kernel), List.mem_of_getElem? (i := 1682) (by decide +kernel)⟩
theorem lw_p171 : lw_okq (⟨"ConflictPlacesModel", "isChange", "(II)Z"⟩, 104) := ⟨⟨by decide +kernel, by decide +kernel⟩, List.mem_of_getElem? (i := 1043) (by decide +kernel), List.mem_of_getElem? (i := 1685) (by decide +kernel), List.mem_of_getElem? (i := 1686) (by decide +kernel)⟩
def lw_privs_11 : List (MethodName × Nat) := [(⟨"ConflictPlacesModel", "oneWork", "()V"⟩, 104), (⟨"ConflictPlacesModel", "sized", "(I)I"⟩, 104), (⟨"ConflictPlacesModel", "inSet", "(II)I"⟩, 104), (⟨"ConflictPlacesModel", "write", "(I)I"⟩, 104), (⟨"ConflictPlacesModel", "say", "(I)V"⟩, 104), (⟨"ConflictPlacesModel", "sayLetter", "(I)V"⟩, 104), (⟨"ConflictPlacesModel", "saySimple", "(I)V"⟩, 104), (⟨"ConflictPlacesModel", "isBinder", "(I)Z"⟩, 104), (⟨"ConflictPlacesModel", "offer", "()V"⟩, 104), (⟨"ConflictPlacesModel", "tries", "(III)V"⟩, 104), (⟨"ConflictPlacesModel", "costOf", "(I)I"⟩, 104), (⟨"ConflictPlacesModel", "isChange", "(II)Z"⟩, 104)]
theorem lw_r11 : ∀ q ∈ lw_privs_11, lw_okq q := List.forall_mem_cons.mpr ⟨lw_p160, List.forall_mem_cons.mpr ⟨lw_p161, List.forall_mem_cons.mpr ⟨lw_p162, List.forall_mem_cons.mpr ⟨lw_p163, List.forall_mem_cons.mpr ⟨lw_p164, List.forall_mem_cons.mpr ⟨lw_p165, List.forall_mem_cons.mpr ⟨lw_p166, List.forall_mem_cons.mpr ⟨lw_p167, List.forall_mem_cons.mpr ⟨lw_p168, List.forall_mem_cons.mpr ⟨lw_p169, List.forall_mem_cons.mpr ⟨lw_p170, List.forall_mem_cons.mpr ⟨lw_p171, fun _ h => absurd h List.not_mem_nil⟩⟩⟩⟩⟩⟩⟩⟩⟩⟩⟩⟩
def lw_privs : List (MethodName × Nat) := lw_privs_1 ++ (lw_privs_2 ++ (lw_privs_3 ++ (lw_privs_4 ++ (lw_privs_5 ++ (lw_privs_6 ++ (lw_privs_7 ++ (lw_privs_8 ++ (lw_privs_9 ++ (lw_privs_10 ++ (lw_privs_11))))))))))
def lw_tbl : List Cond := k2_sels lw_privs ++ tables_1
theorem lw_privs_ok : ∀ q ∈ lw_privs, lw_okq q := by
  show ∀ q ∈ lw_privs_1 ++ (lw_privs_2 ++ (lw_privs_3 ++ (lw_privs_4 ++ (lw_privs_5 ++ (lw_privs_6 ++ (lw_privs_7 ++ (lw_privs_8 ++ (lw_privs_9 ++ (lw_privs_10 ++ (lw_privs_11)))))))))), lw_okq q
  exact List.forall_mem_append.mpr ⟨lw_r1, List.forall_mem_append.mpr ⟨lw_r2, List.forall_mem_append.mpr ⟨lw_r3, List.forall_mem_append.mpr ⟨lw_r4, List.forall_mem_append.mpr ⟨lw_r5, List.forall_mem_append.mpr ⟨lw_r6, List.forall_mem_append.mpr ⟨lw_r7, List.forall_mem_append.mpr ⟨lw_r8, List.forall_mem_append.mpr ⟨lw_r9, List.forall_mem_append.mpr ⟨lw_r10, lw_r11⟩⟩⟩⟩⟩⟩⟩⟩⟩⟩
-- ===== end of PART A; then your names; then what follows =====
def RX0 : String := "ConflictPlaces$Hunt"
def TX0 : u_T := fun k => match k with
  | 0 => ("ConflictPlaces$Hunt", "setOf", "[I", true)
  | 1 => ("ConflictPlaces$Hunt", "left", "[Z", true)
  | 2 => ("ConflictPlaces$Hunt", "cursor", "I", false)
  | 3 => ("ConflictPlaces$Hunt", "found", "I", false)
  | 4 => ("ConflictPlaces$Hunt", "work", "I", false)
  | _ => ("ConflictPlaces$Hunt", "all", "Z", false)
def tyX0 : Nat → FieldType := fun k => match k with
  | 0 => .array .int
  | 1 => .array .boolean
  | 2 => .int
  | 3 => .int
  | 4 => .int
  | _ => .boolean
theorem nmX0 : ∀ a, a < 6 → ∀ b, b < 6 → a ≠ b → (TX0 a).2.1 ≠ (TX0 b).2.1 := by decide +kernel
theorem tyX0_ok : ∀ k, k < 6 → parseFieldDescriptor (TX0 k).2.2.1 = some (tyX0 k) := by decide +kernel
def RX1 : String := "ConflictPlaces$Mender"
def TX1 : u_T := fun k => match k with
  | 0 => ("ConflictPlaces$Mender", "edited", "LConflictPlaces$Rules;", true)
  | 1 => ("ConflictPlaces$Mender", "every", "[Z", true)
  | 2 => ("ConflictPlaces$Mender", "offered", "[I", true)
  | 3 => ("ConflictPlaces$Mender", "count", "I", false)
  | _ => ("ConflictPlaces$Mender", "known", "Z", false)
def tyX1 : Nat → FieldType := fun k => match k with
  | 0 => .object "ConflictPlaces$Rules"
  | 1 => .array .boolean
  | 2 => .array .int
  | 3 => .int
  | _ => .boolean
theorem nmX1 : ∀ a, a < 5 → ∀ b, b < 5 → a ≠ b → (TX1 a).2.1 ≠ (TX1 b).2.1 := by decide +kernel
theorem tyX1_ok : ∀ k, k < 5 → parseFieldDescriptor (TX1 k).2.2.1 = some (tyX1 k) := by decide +kernel
def RX2 : String := "ConflictPlaces$Names"
def TX2 : u_T := fun k => match k with
  | 0 => ("ConflictPlaces$Names", "keys", "[J", true)
  | 1 => ("ConflictPlaces$Names", "places", "[I", true)
  | 2 => ("ConflictPlaces$Names", "outers", "[I", true)
  | 3 => ("ConflictPlaces$Names", "declBinders", "[I", true)
  | 4 => ("ConflictPlaces$Names", "declInners", "[I", true)
  | 5 => ("ConflictPlaces$Names", "declBodies", "[I", true)
  | 6 => ("ConflictPlaces$Names", "decls", "I", false)
  | 7 => ("ConflictPlaces$Names", "inners", "I", false)
  | _ => ("ConflictPlaces$Names", "next", "I", false)
def tyX2 : Nat → FieldType := fun k => match k with
  | 0 => .array .long
  | 1 => .array .int
  | 2 => .array .int
  | 3 => .array .int
  | 4 => .array .int
  | 5 => .array .int
  | 6 => .int
  | 7 => .int
  | _ => .int
theorem nmX2 : ∀ a, a < 9 → ∀ b, b < 9 → a ≠ b → (TX2 a).2.1 ≠ (TX2 b).2.1 := by decide +kernel
theorem tyX2_ok : ∀ k, k < 9 → parseFieldDescriptor (TX2 k).2.2.1 = some (tyX2 k) := by decide +kernel
def RX3 : String := "ConflictPlaces$Program"
def TX3 : u_T := fun k => match k with
  | 0 => ("ConflictPlaces$Program", "tokens", "LConflictPlaces$Tokens;", true)
  | 1 => ("ConflictPlaces$Program", "tree", "LConflictPlaces$Tree;", true)
  | 2 => ("ConflictPlaces$Program", "names", "LConflictPlaces$Names;", true)
  | 3 => ("ConflictPlaces$Program", "rules", "LConflictPlaces$Rules;", true)
  | 4 => ("ConflictPlaces$Program", "at", "I", false)
  | 5 => ("ConflictPlaces$Program", "kind", "I", false)
  | 6 => ("ConflictPlaces$Program", "place", "I", false)
  | 7 => ("ConflictPlaces$Program", "key", "J", false)
  | 8 => ("ConflictPlaces$Program", "made", "I", false)
  | 9 => ("ConflictPlaces$Program", "scope", "I", false)
  | _ => ("ConflictPlaces$Program", "fault", "I", false)
def tyX3 : Nat → FieldType := fun k => match k with
  | 0 => .object "ConflictPlaces$Tokens"
  | 1 => .object "ConflictPlaces$Tree"
  | 2 => .object "ConflictPlaces$Names"
  | 3 => .object "ConflictPlaces$Rules"
  | 4 => .int
  | 5 => .int
  | 6 => .int
  | 7 => .long
  | 8 => .int
  | 9 => .int
  | _ => .int
theorem nmX3 : ∀ a, a < 11 → ∀ b, b < 11 → a ≠ b → (TX3 a).2.1 ≠ (TX3 b).2.1 := by decide +kernel
theorem tyX3_ok : ∀ k, k < 11 → parseFieldDescriptor (TX3 k).2.2.1 = some (tyX3 k) := by decide +kernel
def RX4 : String := "ConflictPlaces$Rules"
def TX4 : u_T := fun k => match k with
  | 0 => ("ConflictPlaces$Rules", "forms", "[I", true)
  | 1 => ("ConflictPlaces$Rules", "owners", "[I", true)
  | 2 => ("ConflictPlaces$Rules", "ranks", "[I", true)
  | 3 => ("ConflictPlaces$Rules", "xs", "[I", true)
  | 4 => ("ConflictPlaces$Rules", "ys", "[I", true)
  | 5 => ("ConflictPlaces$Rules", "zs", "[I", true)
  | 6 => ("ConflictPlaces$Rules", "count", "I", false)
  | 7 => ("ConflictPlaces$Rules", "nodes", "I", false)
  | _ => ("ConflictPlaces$Rules", "binders", "I", false)
def tyX4 : Nat → FieldType := fun k => match k with
  | 0 => .array .int
  | 1 => .array .int
  | 2 => .array .int
  | 3 => .array .int
  | 4 => .array .int
  | 5 => .array .int
  | 6 => .int
  | 7 => .int
  | _ => .int
theorem nmX4 : ∀ a, a < 9 → ∀ b, b < 9 → a ≠ b → (TX4 a).2.1 ≠ (TX4 b).2.1 := by decide +kernel
theorem tyX4_ok : ∀ k, k < 9 → parseFieldDescriptor (TX4 k).2.2.1 = some (tyX4 k) := by decide +kernel
def RX5 : String := "ConflictPlaces$Solver"
def TX5 : u_T := fun k => match k with
  | 0 => ("ConflictPlaces$Solver", "parents", "[I", true)
  | 1 => ("ConflictPlaces$Solver", "sorts", "[I", true)
  | 2 => ("ConflictPlaces$Solver", "lefts", "[I", true)
  | 3 => ("ConflictPlaces$Solver", "rights", "[I", true)
  | 4 => ("ConflictPlaces$Solver", "uses", "[I", true)
  | 5 => ("ConflictPlaces$Solver", "pending", "[I", true)
  | 6 => ("ConflictPlaces$Solver", "count", "I", false)
  | _ => ("ConflictPlaces$Solver", "constants", "I", false)
def tyX5 : Nat → FieldType := fun k => match k with
  | 0 => .array .int
  | 1 => .array .int
  | 2 => .array .int
  | 3 => .array .int
  | 4 => .array .int
  | 5 => .array .int
  | 6 => .int
  | _ => .int
theorem nmX5 : ∀ a, a < 8 → ∀ b, b < 8 → a ≠ b → (TX5 a).2.1 ≠ (TX5 b).2.1 := by decide +kernel
theorem tyX5_ok : ∀ k, k < 8 → parseFieldDescriptor (TX5 k).2.2.1 = some (tyX5 k) := by decide +kernel
def RX6 : String := "ConflictPlaces$Tokens"
def TX6 : u_T := fun k => match k with
  | 0 => ("ConflictPlaces$Tokens", "kinds", "[I", true)
  | 1 => ("ConflictPlaces$Tokens", "places", "[I", true)
  | 2 => ("ConflictPlaces$Tokens", "keys", "[J", true)
  | 3 => ("ConflictPlaces$Tokens", "pairs", "[Z", true)
  | 4 => ("ConflictPlaces$Tokens", "opened", "[I", true)
  | _ => ("ConflictPlaces$Tokens", "count", "I", false)
def tyX6 : Nat → FieldType := fun k => match k with
  | 0 => .array .int
  | 1 => .array .int
  | 2 => .array .long
  | 3 => .array .boolean
  | 4 => .array .int
  | _ => .int
theorem nmX6 : ∀ a, a < 6 → ∀ b, b < 6 → a ≠ b → (TX6 a).2.1 ≠ (TX6 b).2.1 := by decide +kernel
theorem tyX6_ok : ∀ k, k < 6 → parseFieldDescriptor (TX6 k).2.2.1 = some (tyX6 k) := by decide +kernel
def RX7 : String := "ConflictPlaces$Tree"
def TX7 : u_T := fun k => match k with
  | 0 => ("ConflictPlaces$Tree", "kinds", "[I", true)
  | 1 => ("ConflictPlaces$Tree", "places", "[I", true)
  | 2 => ("ConflictPlaces$Tree", "firsts", "[I", true)
  | 3 => ("ConflictPlaces$Tree", "seconds", "[I", true)
  | 4 => ("ConflictPlaces$Tree", "thirds", "[I", true)
  | 5 => ("ConflictPlaces$Tree", "nexts", "[I", true)
  | 6 => ("ConflictPlaces$Tree", "joints", "[I", true)
  | 7 => ("ConflictPlaces$Tree", "meanings", "[I", true)
  | 8 => ("ConflictPlaces$Tree", "scopes", "[I", true)
  | 9 => ("ConflictPlaces$Tree", "keys", "[J", true)
  | 10 => ("ConflictPlaces$Tree", "ends", "[I", true)
  | 11 => ("ConflictPlaces$Tree", "bracketed", "[Z", true)
  | _ => ("ConflictPlaces$Tree", "count", "I", false)
def tyX7 : Nat → FieldType := fun k => match k with
  | 0 => .array .int
  | 1 => .array .int
  | 2 => .array .int
  | 3 => .array .int
  | 4 => .array .int
  | 5 => .array .int
  | 6 => .array .int
  | 7 => .array .int
  | 8 => .array .int
  | 9 => .array .long
  | 10 => .array .int
  | 11 => .array .boolean
  | _ => .int
theorem nmX7 : ∀ a, a < 13 → ∀ b, b < 13 → a ≠ b → (TX7 a).2.1 ≠ (TX7 b).2.1 := by decide +kernel
theorem tyX7_ok : ∀ k, k < 13 → parseFieldDescriptor (TX7 k).2.2.1 = some (tyX7 k) := by decide +kernel
def RX8 : String := "ConflictPlaces$Writer"
def TX8 : u_T := fun k => match k with
  | 0 => ("ConflictPlaces$Writer", "bytes", "[I", true)
  | 1 => ("ConflictPlaces$Writer", "length", "I", false)
  | 2 => ("ConflictPlaces$Writer", "draft", "[I", true)
  | 3 => ("ConflictPlaces$Writer", "drafted", "I", false)
  | 4 => ("ConflictPlaces$Writer", "pending", "[I", true)
  | 5 => ("ConflictPlaces$Writer", "top", "I", false)
  | 6 => ("ConflictPlaces$Writer", "opens", "[I", true)
  | _ => ("ConflictPlaces$Writer", "openCount", "I", false)
def tyX8 : Nat → FieldType := fun k => match k with
  | 0 => .array .int
  | 1 => .int
  | 2 => .array .int
  | 3 => .int
  | 4 => .array .int
  | 5 => .int
  | 6 => .array .int
  | _ => .int
theorem nmX8 : ∀ a, a < 8 → ∀ b, b < 8 → a ≠ b → (TX8 a).2.1 ≠ (TX8 b).2.1 := by decide +kernel
theorem tyX8_ok : ∀ k, k < 8 → parseFieldDescriptor (TX8 k).2.2.1 = some (tyX8 k) := by decide +kernel
def RX9 : String := "ConflictPlaces"
def TX9 : u_T := fun k => match k with
  | 0 => ("ConflictPlaces", "tape", "[I", true)
  | 1 => ("ConflictPlaces", "tapeLength", "I", false)
  | 2 => ("ConflictPlaces", "current", "LConflictPlaces$Program;", false)
  | 3 => ("ConflictPlaces", "spare", "LConflictPlaces$Program;", false)
  | 4 => ("ConflictPlaces", "hasText", "Z", false)
  | 5 => ("ConflictPlaces", "solver", "LConflictPlaces$Solver;", true)
  | 6 => ("ConflictPlaces", "hunt", "LConflictPlaces$Hunt;", true)
  | 7 => ("ConflictPlaces", "mender", "LConflictPlaces$Mender;", true)
  | 8 => ("ConflictPlaces", "writer", "LConflictPlaces$Writer;", true)
  | _ => ("ConflictPlaces", "chosen", "[Z", true)
def tyX9 : Nat → FieldType := fun k => match k with
  | 0 => .array .int
  | 1 => .int
  | 2 => .object "ConflictPlaces$Program"
  | 3 => .object "ConflictPlaces$Program"
  | 4 => .boolean
  | 5 => .object "ConflictPlaces$Solver"
  | 6 => .object "ConflictPlaces$Hunt"
  | 7 => .object "ConflictPlaces$Mender"
  | 8 => .object "ConflictPlaces$Writer"
  | _ => .array .boolean
theorem nmX9 : ∀ a, a < 10 → ∀ b, b < 10 → a ≠ b → (TX9 a).2.1 ≠ (TX9 b).2.1 := by decide +kernel
theorem tyX9_ok : ∀ k, k < 10 → parseFieldDescriptor (TX9 k).2.2.1 = some (tyX9 k) := by decide +kernel
def RX10 : String := "ConflictPlacesModel"
def TX10 : u_T := fun k => match k with
  | 0 => ("ConflictPlacesModel", "tape", "[B", true)
  | 1 => ("ConflictPlacesModel", "taped", "I", false)
  | 2 => ("ConflictPlacesModel", "out", "[B", true)
  | 3 => ("ConflictPlacesModel", "outs", "I", false)
  | 4 => ("ConflictPlacesModel", "at", "I", false)
  | 5 => ("ConflictPlacesModel", "type", "I", false)
  | 6 => ("ConflictPlacesModel", "begin", "I", false)
  | 7 => ("ConflictPlacesModel", "sign", "I", false)
  | 8 => ("ConflictPlacesModel", "word", "J", false)
  | 9 => ("ConflictPlacesModel", "nodes", "I", false)
  | 10 => ("ConflictPlacesModel", "kind", "[I", true)
  | 11 => ("ConflictPlacesModel", "place", "[I", true)
  | 12 => ("ConflictPlacesModel", "name", "[J", true)
  | 13 => ("ConflictPlacesModel", "one", "[I", true)
  | 14 => ("ConflictPlacesModel", "two", "[I", true)
  | 15 => ("ConflictPlacesModel", "three", "[I", true)
  | 16 => ("ConflictPlacesModel", "above", "[I", true)
  | 17 => ("ConflictPlacesModel", "scope", "[I", true)
  | 18 => ("ConflictPlacesModel", "declOf", "[I", true)
  | 19 => ("ConflictPlacesModel", "ahead", "[I", true)
  | 20 => ("ConflictPlacesModel", "bracketed", "[Z", true)
  | 21 => ("ConflictPlacesModel", "binders", "I", false)
  | 22 => ("ConflictPlacesModel", "binderName", "[J", true)
  | 23 => ("ConflictPlacesModel", "binderPlace", "[I", true)
  | 24 => ("ConflictPlacesModel", "binderSort", "[I", true)
  | 25 => ("ConflictPlacesModel", "binderDecl", "[I", true)
  | 26 => ("ConflictPlacesModel", "binderAround", "[I", true)
  | 27 => ("ConflictPlacesModel", "behind", "I", false)
  | 28 => ("ConflictPlacesModel", "decls", "I", false)
  | 29 => ("ConflictPlacesModel", "declBinder", "[I", true)
  | 30 => ("ConflictPlacesModel", "declRoot", "[I", true)
  | 31 => ("ConflictPlacesModel", "open", "I", false)
  | 32 => ("ConflictPlacesModel", "openSort", "[I", true)
  | 33 => ("ConflictPlacesModel", "openNode", "[I", true)
  | 34 => ("ConflictPlacesModel", "openCur", "[I", true)
  | 35 => ("ConflictPlacesModel", "openCall", "[I", true)
  | 36 => ("ConflictPlacesModel", "openBase", "[I", true)
  | 37 => ("ConflictPlacesModel", "openPlace", "[I", true)
  | 38 => ("ConflictPlacesModel", "depth", "I", false)
  | 39 => ("ConflictPlacesModel", "cur", "I", false)
  | 40 => ("ConflictPlacesModel", "call", "I", false)
  | 41 => ("ConflictPlacesModel", "scopeNow", "I", false)
  | 42 => ("ConflictPlacesModel", "starts", "Z", false)
  | 43 => ("ConflictPlacesModel", "operators", "I", false)
  | 44 => ("ConflictPlacesModel", "operator", "[I", true)
  | 45 => ("ConflictPlacesModel", "operand", "[I", true)
  | 46 => ("ConflictPlacesModel", "failed", "Z", false)
  | 47 => ("ConflictPlacesModel", "whole", "Z", false)
  | 48 => ("ConflictPlacesModel", "hasText", "Z", false)
  | 49 => ("ConflictPlacesModel", "allNodes", "I", false)
  | 50 => ("ConflictPlacesModel", "allBinders", "I", false)
  | 51 => ("ConflictPlacesModel", "allDecls", "I", false)
  | 52 => ("ConflictPlacesModel", "sort", "[I", true)
  | 53 => ("ConflictPlacesModel", "spot", "[I", true)
  | 54 => ("ConflictPlacesModel", "first", "[I", true)
  | 55 => ("ConflictPlacesModel", "second", "[I", true)
  | 56 => ("ConflictPlacesModel", "third", "[I", true)
  | 57 => ("ConflictPlacesModel", "parent", "[I", true)
  | 58 => ("ConflictPlacesModel", "means", "[I", true)
  | 59 => ("ConflictPlacesModel", "within", "[I", true)
  | 60 => ("ConflictPlacesModel", "inDecl", "[I", true)
  | 61 => ("ConflictPlacesModel", "binderWord", "[J", true)
  | 62 => ("ConflictPlacesModel", "binderKind", "[I", true)
  | 63 => ("ConflictPlacesModel", "binderOf", "[I", true)
  | 64 => ("ConflictPlacesModel", "binderOut", "[I", true)
  | 65 => ("ConflictPlacesModel", "rootOf", "[I", true)
  | 66 => ("ConflictPlacesModel", "headOf", "[I", true)
  | 67 => ("ConflictPlacesModel", "builtIn", "[J", true)
  | 68 => ("ConflictPlacesModel", "rules", "I", false)
  | 69 => ("ConflictPlacesModel", "ruleSort", "[I", true)
  | 70 => ("ConflictPlacesModel", "ruleNode", "[I", true)
  | 71 => ("ConflictPlacesModel", "ruleOther", "[I", true)
  | 72 => ("ConflictPlacesModel", "rulePlace", "[I", true)
  | 73 => ("ConflictPlacesModel", "ruleKey", "[I", true)
  | 74 => ("ConflictPlacesModel", "numberOf", "[I", true)
  | 75 => ("ConflictPlacesModel", "links", "I", false)
  | 76 => ("ConflictPlacesModel", "what", "[I", true)
  | 77 => ("ConflictPlacesModel", "leftPart", "[I", true)
  | 78 => ("ConflictPlacesModel", "rightPart", "[I", true)
  | 79 => ("ConflictPlacesModel", "bound", "[I", true)
  | 80 => ("ConflictPlacesModel", "pairs", "I", false)
  | 81 => ("ConflictPlacesModel", "pile", "[I", true)
  | 82 => ("ConflictPlacesModel", "clash", "Z", false)
  | 83 => ("ConflictPlacesModel", "mark", "[I", true)
  | 84 => ("ConflictPlacesModel", "changeSort", "I", false)
  | 85 => ("ConflictPlacesModel", "changeNode", "I", false)
  | 86 => ("ConflictPlacesModel", "changeMeans", "I", false)
  | 87 => ("ConflictPlacesModel", "used", "[Z", true)
  | 88 => ("ConflictPlacesModel", "work", "I", false)
  | 89 => ("ConflictPlacesModel", "sets", "I", false)
  | 90 => ("ConflictPlacesModel", "all", "Z", false)
  | 91 => ("ConflictPlacesModel", "asks", "Z", false)
  | 92 => ("ConflictPlacesModel", "leaves", "I", false)
  | 93 => ("ConflictPlacesModel", "setOf", "[I", true)
  | 94 => ("ConflictPlacesModel", "kept", "[Z", true)
  | 95 => ("ConflictPlacesModel", "fresh", "I", false)
  | 96 => ("ConflictPlacesModel", "draftOut", "[B", true)
  | 97 => ("ConflictPlacesModel", "letterOf", "[I", true)
  | 98 => ("ConflictPlacesModel", "letters", "I", false)
  | 99 => ("ConflictPlacesModel", "offered", "I", false)
  | 100 => ("ConflictPlacesModel", "offerSort", "[I", true)
  | 101 => ("ConflictPlacesModel", "offerNode", "[I", true)
  | 102 => ("ConflictPlacesModel", "offerMeans", "[I", true)
  | _ => ("ConflictPlacesModel", "inBrackets", "[Z", true)
def tyX10 : Nat → FieldType := fun k => match k with
  | 0 => .array .byte
  | 1 => .int
  | 2 => .array .byte
  | 3 => .int
  | 4 => .int
  | 5 => .int
  | 6 => .int
  | 7 => .int
  | 8 => .long
  | 9 => .int
  | 10 => .array .int
  | 11 => .array .int
  | 12 => .array .long
  | 13 => .array .int
  | 14 => .array .int
  | 15 => .array .int
  | 16 => .array .int
  | 17 => .array .int
  | 18 => .array .int
  | 19 => .array .int
  | 20 => .array .boolean
  | 21 => .int
  | 22 => .array .long
  | 23 => .array .int
  | 24 => .array .int
  | 25 => .array .int
  | 26 => .array .int
  | 27 => .int
  | 28 => .int
  | 29 => .array .int
  | 30 => .array .int
  | 31 => .int
  | 32 => .array .int
  | 33 => .array .int
  | 34 => .array .int
  | 35 => .array .int
  | 36 => .array .int
  | 37 => .array .int
  | 38 => .int
  | 39 => .int
  | 40 => .int
  | 41 => .int
  | 42 => .boolean
  | 43 => .int
  | 44 => .array .int
  | 45 => .array .int
  | 46 => .boolean
  | 47 => .boolean
  | 48 => .boolean
  | 49 => .int
  | 50 => .int
  | 51 => .int
  | 52 => .array .int
  | 53 => .array .int
  | 54 => .array .int
  | 55 => .array .int
  | 56 => .array .int
  | 57 => .array .int
  | 58 => .array .int
  | 59 => .array .int
  | 60 => .array .int
  | 61 => .array .long
  | 62 => .array .int
  | 63 => .array .int
  | 64 => .array .int
  | 65 => .array .int
  | 66 => .array .int
  | 67 => .array .long
  | 68 => .int
  | 69 => .array .int
  | 70 => .array .int
  | 71 => .array .int
  | 72 => .array .int
  | 73 => .array .int
  | 74 => .array .int
  | 75 => .int
  | 76 => .array .int
  | 77 => .array .int
  | 78 => .array .int
  | 79 => .array .int
  | 80 => .int
  | 81 => .array .int
  | 82 => .boolean
  | 83 => .array .int
  | 84 => .int
  | 85 => .int
  | 86 => .int
  | 87 => .array .boolean
  | 88 => .int
  | 89 => .int
  | 90 => .boolean
  | 91 => .boolean
  | 92 => .int
  | 93 => .array .int
  | 94 => .array .boolean
  | 95 => .int
  | 96 => .array .byte
  | 97 => .array .int
  | 98 => .int
  | 99 => .int
  | 100 => .array .int
  | 101 => .array .int
  | 102 => .array .int
  | _ => .array .boolean
theorem nmX10 : ∀ a, a < 104 → ∀ b, b < 104 → a ≠ b → (TX10 a).2.1 ≠ (TX10 b).2.1 := by decide +kernel
theorem tyX10_ok : ∀ k, k < 104 → parseFieldDescriptor (TX10 k).2.2.1 = some (tyX10 k) := by decide +kernel
def RJ7 : String := "java/util/Arrays"
abbrev lm_cl : List vw_C := [(RX0, TX0, 6), (RX1, TX1, 5), (RX2, TX2, 9), (RX3, TX3, 11), (RX4, TX4, 9), (RX5, TX5, 8), (RX6, TX6, 6), (RX7, TX7, 13), (RX8, TX8, 8), (RX9, TX9, 10), (RX10, TX10, 104)]
def lm_cR : Nat → String := fun k => match k with
  | 0 => RX0
  | 1 => RX1
  | 2 => RX2
  | 3 => RX3
  | 4 => RX4
  | 5 => RX5
  | 6 => RX6
  | 7 => RX7
  | 8 => RX8
  | 9 => RX9
  | 10 => RX10
  | _ => ""
def lm_cT : Nat → u_T := fun k => match k with
  | 0 => TX0
  | 1 => TX1
  | 2 => TX2
  | 3 => TX3
  | 4 => TX4
  | 5 => TX5
  | 6 => TX6
  | 7 => TX7
  | 8 => TX8
  | 9 => TX9
  | 10 => TX10
  | _ => TX0
def lm_cN : Nat → Nat := fun k => match k with
  | 0 => 6
  | 1 => 5
  | 2 => 9
  | 3 => 11
  | 4 => 9
  | 5 => 8
  | 6 => 6
  | 7 => 13
  | 8 => 8
  | 9 => 10
  | 10 => 104
  | _ => 0
def lm_cy : Nat → (Nat → FieldType) := fun k => match k with
  | 0 => tyX0
  | 1 => tyX1
  | 2 => tyX2
  | 3 => tyX3
  | 4 => tyX4
  | 5 => tyX5
  | 6 => tyX6
  | 7 => tyX7
  | 8 => tyX8
  | 9 => tyX9
  | 10 => tyX10
  | _ => tyX0
theorem lm_in0 : u_ws RX0 TX0 6 = [541, 543, 545, 547, 549, 551].filterMap (fun i => lw_tbl[i]?) := by decide +kernel
theorem lm_in1 : u_ws RX1 TX1 5 = [568, 570, 572, 574, 576].filterMap (fun i => lw_tbl[i]?) := by decide +kernel
theorem lm_in2 : u_ws RX2 TX2 9 = [389, 391, 393, 395, 397, 399, 401, 403, 405].filterMap (fun i => lw_tbl[i]?) := by decide +kernel
theorem lm_in3 : u_ws RX3 TX3 11 = [468, 470, 472, 474, 476, 478, 480, 482, 484, 486, 488].filterMap (fun i => lw_tbl[i]?) := by decide +kernel
theorem lm_in4 : u_ws RX4 TX4 9 = [432, 434, 436, 438, 440, 442, 444, 446, 448].filterMap (fun i => lw_tbl[i]?) := by decide +kernel
theorem lm_in5 : u_ws RX5 TX5 8 = [508, 510, 512, 514, 516, 518, 520, 522].filterMap (fun i => lw_tbl[i]?) := by decide +kernel
theorem lm_in6 : u_ws RX6 TX6 6 = [221, 223, 225, 227, 229, 231].filterMap (fun i => lw_tbl[i]?) := by decide +kernel
theorem lm_in7 : u_ws RX7 TX7 13 = [290, 292, 294, 296, 298, 300, 302, 304, 306, 308, 310, 312, 314].filterMap (fun i => lw_tbl[i]?) := by decide +kernel
theorem lm_in8 : u_ws RX8 TX8 8 = [593, 595, 597, 599, 601, 603, 605, 607].filterMap (fun i => lw_tbl[i]?) := by decide +kernel
theorem lm_in9 : u_ws RX9 TX9 10 = [620, 622, 624, 626, 628, 630, 632, 634, 636, 638].filterMap (fun i => lw_tbl[i]?) := by decide +kernel
theorem lm_in10 : u_ws RX10 TX10 104 = [1335, 1337, 1339, 1341, 1343, 1345, 1347, 1349, 1351, 1353, 1355, 1357, 1359, 1361, 1363, 1365, 1367, 1369, 1371, 1373, 1375, 1377, 1379, 1381, 1383, 1385, 1387, 1389, 1391, 1393, 1395, 1397, 1399, 1401, 1403, 1405, 1407, 1409, 1411, 1413, 1415, 1417, 1419, 1421, 1423, 1425, 1427, 1429, 1431, 1433, 1435, 1437, 1439, 1441, 1443, 1445, 1447, 1449, 1451, 1453, 1455, 1457, 1459, 1461, 1463, 1465, 1467, 1469, 1471, 1473, 1475, 1477, 1479, 1481, 1483, 1485, 1487, 1489, 1491, 1493, 1495, 1497, 1499, 1501, 1503, 1505, 1507, 1509, 1511, 1513, 1515, 1517, 1519, 1521, 1523, 1525, 1527, 1529, 1531, 1533, 1535, 1537, 1539, 1541].filterMap (fun i => lw_tbl[i]?) := by decide +kernel
