section
-- ===== PART A: goes FIRST, ahead of the names: the tables' words, and 'selects' of the private methods out of them =====
/-- a private method of a class that the tables say can be made, by its rows of tables_1 -/
def lw_okq (q : MethodName × Nat) : Prop := (q.1.cls ≠ "java/lang/invoke/MethodHandle" ∧ q.1.cls ≠ "java/lang/invoke/VarHandle") ∧ Cond.instantiable q.1.cls q.2 ∈ tables_1 ∧ Cond.privateMethod q.1 ∈ tables_1 ∧ Cond.instanceMethod q.1 ∈ tables_1
theorem lw_p0 : lw_okq (⟨"ClosedWorld", "reopenUnlessNone", "(I)I"⟩, 6) := ⟨⟨by decide +kernel, by decide +kernel⟩, List.mem_of_getElem? (i := 11) (by decide +kernel), List.mem_of_getElem? (i := 231) (by decide +kernel), List.mem_of_getElem? (i := 232) (by decide +kernel)⟩
theorem lw_p1 : lw_okq (⟨"ClosedWorld", "reopenIf", "(Z)Z"⟩, 6) := ⟨⟨by decide +kernel, by decide +kernel⟩, List.mem_of_getElem? (i := 11) (by decide +kernel), List.mem_of_getElem? (i := 235) (by decide +kernel), List.mem_of_getElem? (i := 236) (by decide +kernel)⟩
theorem lw_p2 : lw_okq (⟨"ClosedWorld$Program", "operandFits", "(II)Z"⟩, 16) := ⟨⟨by decide +kernel, by decide +kernel⟩, List.mem_of_getElem? (i := 19) (by decide +kernel), List.mem_of_getElem? (i := 274) (by decide +kernel), List.mem_of_getElem? (i := 275) (by decide +kernel)⟩
theorem lw_p3 : lw_okq (⟨"ClosedWorld$Checker", "enterStart", "()V"⟩, 7) := ⟨⟨by decide +kernel, by decide +kernel⟩, List.mem_of_getElem? (i := 77) (by decide +kernel), List.mem_of_getElem? (i := 311) (by decide +kernel), List.mem_of_getElem? (i := 312) (by decide +kernel)⟩
theorem lw_p4 : lw_okq (⟨"ClosedWorld$Checker", "arriveAt", "(I)V"⟩, 7) := ⟨⟨by decide +kernel, by decide +kernel⟩, List.mem_of_getElem? (i := 77) (by decide +kernel), List.mem_of_getElem? (i := 334) (by decide +kernel), List.mem_of_getElem? (i := 335) (by decide +kernel)⟩
theorem lw_p5 : lw_okq (⟨"ClosedWorld$Checker", "need", "(Z)V"⟩, 7) := ⟨⟨by decide +kernel, by decide +kernel⟩, List.mem_of_getElem? (i := 77) (by decide +kernel), List.mem_of_getElem? (i := 347) (by decide +kernel), List.mem_of_getElem? (i := 348) (by decide +kernel)⟩
theorem lw_p6 : lw_okq (⟨"ClosedWorld$Checker", "join", "(II)I"⟩, 7) := ⟨⟨by decide +kernel, by decide +kernel⟩, List.mem_of_getElem? (i := 77) (by decide +kernel), List.mem_of_getElem? (i := 355) (by decide +kernel), List.mem_of_getElem? (i := 356) (by decide +kernel)⟩
theorem lw_p7 : lw_okq (⟨"ClosedWorld$Checker", "firstWaiting", "()I"⟩, 7) := ⟨⟨by decide +kernel, by decide +kernel⟩, List.mem_of_getElem? (i := 77) (by decide +kernel), List.mem_of_getElem? (i := 366) (by decide +kernel), List.mem_of_getElem? (i := 367) (by decide +kernel)⟩
theorem lw_p8 : lw_okq (⟨"ClosedWorld$Checker", "visit", "(I)V"⟩, 7) := ⟨⟨by decide +kernel, by decide +kernel⟩, List.mem_of_getElem? (i := 77) (by decide +kernel), List.mem_of_getElem? (i := 371) (by decide +kernel), List.mem_of_getElem? (i := 372) (by decide +kernel)⟩
theorem lw_p9 : lw_okq (⟨"ClosedWorld$Checker", "recall", "(I)V"⟩, 7) := ⟨⟨by decide +kernel, by decide +kernel⟩, List.mem_of_getElem? (i := 77) (by decide +kernel), List.mem_of_getElem? (i := 379) (by decide +kernel), List.mem_of_getElem? (i := 380) (by decide +kernel)⟩
theorem lw_p10 : lw_okq (⟨"ClosedWorld$Checker", "apply", "(II)V"⟩, 7) := ⟨⟨by decide +kernel, by decide +kernel⟩, List.mem_of_getElem? (i := 77) (by decide +kernel), List.mem_of_getElem? (i := 404) (by decide +kernel), List.mem_of_getElem? (i := 405) (by decide +kernel)⟩
theorem lw_p11 : lw_okq (⟨"ClosedWorld$Checker", "put", "(I)V"⟩, 7) := ⟨⟨by decide +kernel, by decide +kernel⟩, List.mem_of_getElem? (i := 77) (by decide +kernel), List.mem_of_getElem? (i := 408) (by decide +kernel), List.mem_of_getElem? (i := 409) (by decide +kernel)⟩
theorem lw_p12 : lw_okq (⟨"ClosedWorld$Checker", "takeAny", "()I"⟩, 7) := ⟨⟨by decide +kernel, by decide +kernel⟩, List.mem_of_getElem? (i := 77) (by decide +kernel), List.mem_of_getElem? (i := 413) (by decide +kernel), List.mem_of_getElem? (i := 414) (by decide +kernel)⟩
theorem lw_p13 : lw_okq (⟨"ClosedWorld$Checker", "takeNumbers", "(I)V"⟩, 7) := ⟨⟨by decide +kernel, by decide +kernel⟩, List.mem_of_getElem? (i := 77) (by decide +kernel), List.mem_of_getElem? (i := 421) (by decide +kernel), List.mem_of_getElem? (i := 422) (by decide +kernel)⟩
theorem lw_p14 : lw_okq (⟨"ClosedWorld$Checker", "applyToObject", "(II)V"⟩, 7) := ⟨⟨by decide +kernel, by decide +kernel⟩, List.mem_of_getElem? (i := 77) (by decide +kernel), List.mem_of_getElem? (i := 425) (by decide +kernel), List.mem_of_getElem? (i := 426) (by decide +kernel)⟩
theorem lw_p15 : lw_okq (⟨"ClosedWorld$Checker", "takeObject", "()I"⟩, 7) := ⟨⟨by decide +kernel, by decide +kernel⟩, List.mem_of_getElem? (i := 77) (by decide +kernel), List.mem_of_getElem? (i := 429) (by decide +kernel), List.mem_of_getElem? (i := 430) (by decide +kernel)⟩
def lw_privs_1 : List (MethodName × Nat) := [(⟨"ClosedWorld", "reopenUnlessNone", "(I)I"⟩, 6), (⟨"ClosedWorld", "reopenIf", "(Z)Z"⟩, 6), (⟨"ClosedWorld$Program", "operandFits", "(II)Z"⟩, 16), (⟨"ClosedWorld$Checker", "enterStart", "()V"⟩, 7), (⟨"ClosedWorld$Checker", "arriveAt", "(I)V"⟩, 7), (⟨"ClosedWorld$Checker", "need", "(Z)V"⟩, 7), (⟨"ClosedWorld$Checker", "join", "(II)I"⟩, 7), (⟨"ClosedWorld$Checker", "firstWaiting", "()I"⟩, 7), (⟨"ClosedWorld$Checker", "visit", "(I)V"⟩, 7), (⟨"ClosedWorld$Checker", "recall", "(I)V"⟩, 7), (⟨"ClosedWorld$Checker", "apply", "(II)V"⟩, 7), (⟨"ClosedWorld$Checker", "put", "(I)V"⟩, 7), (⟨"ClosedWorld$Checker", "takeAny", "()I"⟩, 7), (⟨"ClosedWorld$Checker", "takeNumbers", "(I)V"⟩, 7), (⟨"ClosedWorld$Checker", "applyToObject", "(II)V"⟩, 7), (⟨"ClosedWorld$Checker", "takeObject", "()I"⟩, 7)]
theorem lw_r1 : ∀ q ∈ lw_privs_1, lw_okq q := List.forall_mem_cons.mpr ⟨lw_p0, List.forall_mem_cons.mpr ⟨lw_p1, List.forall_mem_cons.mpr ⟨lw_p2, List.forall_mem_cons.mpr ⟨lw_p3, List.forall_mem_cons.mpr ⟨lw_p4, List.forall_mem_cons.mpr ⟨lw_p5, List.forall_mem_cons.mpr ⟨lw_p6, List.forall_mem_cons.mpr ⟨lw_p7, List.forall_mem_cons.mpr ⟨lw_p8, List.forall_mem_cons.mpr ⟨lw_p9, List.forall_mem_cons.mpr ⟨lw_p10, List.forall_mem_cons.mpr ⟨lw_p11, List.forall_mem_cons.mpr ⟨lw_p12, List.forall_mem_cons.mpr ⟨lw_p13, List.forall_mem_cons.mpr ⟨lw_p14, List.forall_mem_cons.mpr ⟨lw_p15, fun _ h => absurd h List.not_mem_nil⟩⟩⟩⟩⟩⟩⟩⟩⟩⟩⟩⟩⟩⟩⟩⟩
theorem lw_p16 : lw_okq (⟨"ClosedWorld$Reach", "reachCall", "(I)V"⟩, 4) := ⟨⟨by decide +kernel, by decide +kernel⟩, List.mem_of_getElem? (i := 121) (by decide +kernel), List.mem_of_getElem? (i := 443) (by decide +kernel), List.mem_of_getElem? (i := 444) (by decide +kernel)⟩
theorem lw_p17 : lw_okq (⟨"ClosedWorld$Reach", "touch", "(I)V"⟩, 4) := ⟨⟨by decide +kernel, by decide +kernel⟩, List.mem_of_getElem? (i := 121) (by decide +kernel), List.mem_of_getElem? (i := 448) (by decide +kernel), List.mem_of_getElem? (i := 449) (by decide +kernel)⟩
theorem lw_p18 : lw_okq (⟨"ClosedWorld$Reach", "followLive", "()V"⟩, 4) := ⟨⟨by decide +kernel, by decide +kernel⟩, List.mem_of_getElem? (i := 121) (by decide +kernel), List.mem_of_getElem? (i := 460) (by decide +kernel), List.mem_of_getElem? (i := 461) (by decide +kernel)⟩
theorem lw_p19 : lw_okq (⟨"ClosedWorld$Reach", "follow", "(II)V"⟩, 4) := ⟨⟨by decide +kernel, by decide +kernel⟩, List.mem_of_getElem? (i := 121) (by decide +kernel), List.mem_of_getElem? (i := 477) (by decide +kernel), List.mem_of_getElem? (i := 478) (by decide +kernel)⟩
theorem lw_p20 : lw_okq (⟨"ClosedWorld$Machine", "trigger", "(II)I"⟩, 13) := ⟨⟨by decide +kernel, by decide +kernel⟩, List.mem_of_getElem? (i := 140) (by decide +kernel), List.mem_of_getElem? (i := 551) (by decide +kernel), List.mem_of_getElem? (i := 552) (by decide +kernel)⟩
theorem lw_p21 : lw_okq (⟨"ClosedWorld$Machine", "perform", "(II)I"⟩, 13) := ⟨⟨by decide +kernel, by decide +kernel⟩, List.mem_of_getElem? (i := 140) (by decide +kernel), List.mem_of_getElem? (i := 557) (by decide +kernel), List.mem_of_getElem? (i := 558) (by decide +kernel)⟩
theorem lw_p22 : lw_okq (⟨"ClosedWorld$Machine", "toss", "(I)I"⟩, 13) := ⟨⟨by decide +kernel, by decide +kernel⟩, List.mem_of_getElem? (i := 140) (by decide +kernel), List.mem_of_getElem? (i := 561) (by decide +kernel), List.mem_of_getElem? (i := 562) (by decide +kernel)⟩
theorem lw_p23 : lw_okq (⟨"ClosedWorld$Machine", "execute", "(III)I"⟩, 13) := ⟨⟨by decide +kernel, by decide +kernel⟩, List.mem_of_getElem? (i := 140) (by decide +kernel), List.mem_of_getElem? (i := 583) (by decide +kernel), List.mem_of_getElem? (i := 584) (by decide +kernel)⟩
theorem lw_p24 : lw_okq (⟨"ClosedWorld$Machine", "calculate", "(ILClosedWorld$Frame;)I"⟩, 13) := ⟨⟨by decide +kernel, by decide +kernel⟩, List.mem_of_getElem? (i := 140) (by decide +kernel), List.mem_of_getElem? (i := 590) (by decide +kernel), List.mem_of_getElem? (i := 591) (by decide +kernel)⟩
theorem lw_p25 : lw_okq (⟨"ClosedWorld$Machine", "print", "(I)V"⟩, 13) := ⟨⟨by decide +kernel, by decide +kernel⟩, List.mem_of_getElem? (i := 140) (by decide +kernel), List.mem_of_getElem? (i := 594) (by decide +kernel), List.mem_of_getElem? (i := 595) (by decide +kernel)⟩
theorem lw_p26 : lw_okq (⟨"ClosedWorld$Machine", "accessField", "(IILClosedWorld$Frame;)I"⟩, 13) := ⟨⟨by decide +kernel, by decide +kernel⟩, List.mem_of_getElem? (i := 140) (by decide +kernel), List.mem_of_getElem? (i := 598) (by decide +kernel), List.mem_of_getElem? (i := 599) (by decide +kernel)⟩
theorem lw_p27 : lw_okq (⟨"ClosedWorld$Machine", "isNull", "(I)Z"⟩, 13) := ⟨⟨by decide +kernel, by decide +kernel⟩, List.mem_of_getElem? (i := 140) (by decide +kernel), List.mem_of_getElem? (i := 602) (by decide +kernel), List.mem_of_getElem? (i := 603) (by decide +kernel)⟩
theorem lw_p28 : lw_okq (⟨"ClosedWorld$Machine", "testType", "(IILClosedWorld$Frame;)I"⟩, 13) := ⟨⟨by decide +kernel, by decide +kernel⟩, List.mem_of_getElem? (i := 140) (by decide +kernel), List.mem_of_getElem? (i := 607) (by decide +kernel), List.mem_of_getElem? (i := 608) (by decide +kernel)⟩
theorem lw_p29 : lw_okq (⟨"ClosedWorld$Machine", "send", "(II)I"⟩, 13) := ⟨⟨by decide +kernel, by decide +kernel⟩, List.mem_of_getElem? (i := 140) (by decide +kernel), List.mem_of_getElem? (i := 611) (by decide +kernel), List.mem_of_getElem? (i := 612) (by decide +kernel)⟩
theorem lw_p30 : lw_okq (⟨"ClosedWorld$Machine", "receive", "(ILClosedWorld$Frame;)I"⟩, 13) := ⟨⟨by decide +kernel, by decide +kernel⟩, List.mem_of_getElem? (i := 140) (by decide +kernel), List.mem_of_getElem? (i := 620) (by decide +kernel), List.mem_of_getElem? (i := 621) (by decide +kernel)⟩
theorem lw_p31 : lw_okq (⟨"ClosedWorld$Machine", "executeTriggering", "(III)I"⟩, 13) := ⟨⟨by decide +kernel, by decide +kernel⟩, List.mem_of_getElem? (i := 140) (by decide +kernel), List.mem_of_getElem? (i := 624) (by decide +kernel), List.mem_of_getElem? (i := 625) (by decide +kernel)⟩
def lw_privs_2 : List (MethodName × Nat) := [(⟨"ClosedWorld$Reach", "reachCall", "(I)V"⟩, 4), (⟨"ClosedWorld$Reach", "touch", "(I)V"⟩, 4), (⟨"ClosedWorld$Reach", "followLive", "()V"⟩, 4), (⟨"ClosedWorld$Reach", "follow", "(II)V"⟩, 4), (⟨"ClosedWorld$Machine", "trigger", "(II)I"⟩, 13), (⟨"ClosedWorld$Machine", "perform", "(II)I"⟩, 13), (⟨"ClosedWorld$Machine", "toss", "(I)I"⟩, 13), (⟨"ClosedWorld$Machine", "execute", "(III)I"⟩, 13), (⟨"ClosedWorld$Machine", "calculate", "(ILClosedWorld$Frame;)I"⟩, 13), (⟨"ClosedWorld$Machine", "print", "(I)V"⟩, 13), (⟨"ClosedWorld$Machine", "accessField", "(IILClosedWorld$Frame;)I"⟩, 13), (⟨"ClosedWorld$Machine", "isNull", "(I)Z"⟩, 13), (⟨"ClosedWorld$Machine", "testType", "(IILClosedWorld$Frame;)I"⟩, 13), (⟨"ClosedWorld$Machine", "send", "(II)I"⟩, 13), (⟨"ClosedWorld$Machine", "receive", "(ILClosedWorld$Frame;)I"⟩, 13), (⟨"ClosedWorld$Machine", "executeTriggering", "(III)I"⟩, 13)]
theorem lw_r2 : ∀ q ∈ lw_privs_2, lw_okq q := List.forall_mem_cons.mpr ⟨lw_p16, List.forall_mem_cons.mpr ⟨lw_p17, List.forall_mem_cons.mpr ⟨lw_p18, List.forall_mem_cons.mpr ⟨lw_p19, List.forall_mem_cons.mpr ⟨lw_p20, List.forall_mem_cons.mpr ⟨lw_p21, List.forall_mem_cons.mpr ⟨lw_p22, List.forall_mem_cons.mpr ⟨lw_p23, List.forall_mem_cons.mpr ⟨lw_p24, List.forall_mem_cons.mpr ⟨lw_p25, List.forall_mem_cons.mpr ⟨lw_p26, List.forall_mem_cons.mpr ⟨lw_p27, List.forall_mem_cons.mpr ⟨lw_p28, List.forall_mem_cons.mpr ⟨lw_p29, List.forall_mem_cons.mpr ⟨lw_p30, List.forall_mem_cons.mpr ⟨lw_p31, fun _ h => absurd h List.not_mem_nil⟩⟩⟩⟩⟩⟩⟩⟩⟩⟩⟩⟩⟩⟩⟩⟩
theorem lw_p32 : lw_okq (⟨"ClosedWorld$Machine", "makeObject", "(ILClosedWorld$Frame;)I"⟩, 13) := ⟨⟨by decide +kernel, by decide +kernel⟩, List.mem_of_getElem? (i := 140) (by decide +kernel), List.mem_of_getElem? (i := 628) (by decide +kernel), List.mem_of_getElem? (i := 629) (by decide +kernel)⟩
theorem lw_p33 : lw_okq (⟨"ClosedWorldModel", "width", "(I)I"⟩, 48) := ⟨⟨by decide +kernel, by decide +kernel⟩, List.mem_of_getElem? (i := 692) (by decide +kernel), List.mem_of_getElem? (i := 851) (by decide +kernel), List.mem_of_getElem? (i := 852) (by decide +kernel)⟩
theorem lw_p34 : lw_okq (⟨"ClosedWorldModel", "changed", "()V"⟩, 48) := ⟨⟨by decide +kernel, by decide +kernel⟩, List.mem_of_getElem? (i := 692) (by decide +kernel), List.mem_of_getElem? (i := 855) (by decide +kernel), List.mem_of_getElem? (i := 856) (by decide +kernel)⟩
theorem lw_p35 : lw_okq (⟨"ClosedWorldModel", "ownMethod", "(II)I"⟩, 48) := ⟨⟨by decide +kernel, by decide +kernel⟩, List.mem_of_getElem? (i := 692) (by decide +kernel), List.mem_of_getElem? (i := 863) (by decide +kernel), List.mem_of_getElem? (i := 864) (by decide +kernel)⟩
theorem lw_p36 : lw_okq (⟨"ClosedWorldModel", "fits", "(II)Z"⟩, 48) := ⟨⟨by decide +kernel, by decide +kernel⟩, List.mem_of_getElem? (i := 692) (by decide +kernel), List.mem_of_getElem? (i := 875) (by decide +kernel), List.mem_of_getElem? (i := 876) (by decide +kernel)⟩
theorem lw_p37 : lw_okq (⟨"ClosedWorldModel", "maker", "(II)I"⟩, 48) := ⟨⟨by decide +kernel, by decide +kernel⟩, List.mem_of_getElem? (i := 692) (by decide +kernel), List.mem_of_getElem? (i := 891) (by decide +kernel), List.mem_of_getElem? (i := 892) (by decide +kernel)⟩
theorem lw_p38 : lw_okq (⟨"ClosedWorldModel", "before", "(II)I"⟩, 48) := ⟨⟨by decide +kernel, by decide +kernel⟩, List.mem_of_getElem? (i := 692) (by decide +kernel), List.mem_of_getElem? (i := 895) (by decide +kernel), List.mem_of_getElem? (i := 896) (by decide +kernel)⟩
theorem lw_p39 : lw_okq (⟨"ClosedWorldModel", "isOf", "(II)Z"⟩, 48) := ⟨⟨by decide +kernel, by decide +kernel⟩, List.mem_of_getElem? (i := 692) (by decide +kernel), List.mem_of_getElem? (i := 899) (by decide +kernel), List.mem_of_getElem? (i := 900) (by decide +kernel)⟩
theorem lw_p40 : lw_okq (⟨"ClosedWorldModel", "sound", "(I)Z"⟩, 48) := ⟨⟨by decide +kernel, by decide +kernel⟩, List.mem_of_getElem? (i := 692) (by decide +kernel), List.mem_of_getElem? (i := 907) (by decide +kernel), List.mem_of_getElem? (i := 908) (by decide +kernel)⟩
theorem lw_p41 : lw_okq (⟨"ClosedWorldModel", "arrive", "(II)V"⟩, 48) := ⟨⟨by decide +kernel, by decide +kernel⟩, List.mem_of_getElem? (i := 692) (by decide +kernel), List.mem_of_getElem? (i := 911) (by decide +kernel), List.mem_of_getElem? (i := 912) (by decide +kernel)⟩
theorem lw_p42 : lw_okq (⟨"ClosedWorldModel", "join", "(II)I"⟩, 48) := ⟨⟨by decide +kernel, by decide +kernel⟩, List.mem_of_getElem? (i := 692) (by decide +kernel), List.mem_of_getElem? (i := 915) (by decide +kernel), List.mem_of_getElem? (i := 916) (by decide +kernel)⟩
theorem lw_p43 : lw_okq (⟨"ClosedWorldModel", "flow", "(II)V"⟩, 48) := ⟨⟨by decide +kernel, by decide +kernel⟩, List.mem_of_getElem? (i := 692) (by decide +kernel), List.mem_of_getElem? (i := 919) (by decide +kernel), List.mem_of_getElem? (i := 920) (by decide +kernel)⟩
theorem lw_p44 : lw_okq (⟨"ClosedWorldModel", "load", "(I)V"⟩, 48) := ⟨⟨by decide +kernel, by decide +kernel⟩, List.mem_of_getElem? (i := 692) (by decide +kernel), List.mem_of_getElem? (i := 923) (by decide +kernel), List.mem_of_getElem? (i := 924) (by decide +kernel)⟩
theorem lw_p45 : lw_okq (⟨"ClosedWorldModel", "effect", "(II)V"⟩, 48) := ⟨⟨by decide +kernel, by decide +kernel⟩, List.mem_of_getElem? (i := 692) (by decide +kernel), List.mem_of_getElem? (i := 927) (by decide +kernel), List.mem_of_getElem? (i := 928) (by decide +kernel)⟩
theorem lw_p46 : lw_okq (⟨"ClosedWorldModel", "take", "(I)I"⟩, 48) := ⟨⟨by decide +kernel, by decide +kernel⟩, List.mem_of_getElem? (i := 692) (by decide +kernel), List.mem_of_getElem? (i := 931) (by decide +kernel), List.mem_of_getElem? (i := 932) (by decide +kernel)⟩
theorem lw_p47 : lw_okq (⟨"ClosedWorldModel", "give", "(I)V"⟩, 48) := ⟨⟨by decide +kernel, by decide +kernel⟩, List.mem_of_getElem? (i := 692) (by decide +kernel), List.mem_of_getElem? (i := 936) (by decide +kernel), List.mem_of_getElem? (i := 937) (by decide +kernel)⟩
def lw_privs_3 : List (MethodName × Nat) := [(⟨"ClosedWorld$Machine", "makeObject", "(ILClosedWorld$Frame;)I"⟩, 13), (⟨"ClosedWorldModel", "width", "(I)I"⟩, 48), (⟨"ClosedWorldModel", "changed", "()V"⟩, 48), (⟨"ClosedWorldModel", "ownMethod", "(II)I"⟩, 48), (⟨"ClosedWorldModel", "fits", "(II)Z"⟩, 48), (⟨"ClosedWorldModel", "maker", "(II)I"⟩, 48), (⟨"ClosedWorldModel", "before", "(II)I"⟩, 48), (⟨"ClosedWorldModel", "isOf", "(II)Z"⟩, 48), (⟨"ClosedWorldModel", "sound", "(I)Z"⟩, 48), (⟨"ClosedWorldModel", "arrive", "(II)V"⟩, 48), (⟨"ClosedWorldModel", "join", "(II)I"⟩, 48), (⟨"ClosedWorldModel", "flow", "(II)V"⟩, 48), (⟨"ClosedWorldModel", "load", "(I)V"⟩, 48), (⟨"ClosedWorldModel", "effect", "(II)V"⟩, 48), (⟨"ClosedWorldModel", "take", "(I)I"⟩, 48), (⟨"ClosedWorldModel", "give", "(I)V"⟩, 48)]
theorem lw_r3 : ∀ q ∈ lw_privs_3, lw_okq q := List.forall_mem_cons.mpr ⟨lw_p32, List.forall_mem_cons.mpr ⟨lw_p33, List.forall_mem_cons.mpr ⟨lw_p34, List.forall_mem_cons.mpr ⟨lw_p35, List.forall_mem_cons.mpr ⟨lw_p36, List.forall_mem_cons.mpr ⟨lw_p37, List.forall_mem_cons.mpr ⟨lw_p38, List.forall_mem_cons.mpr ⟨lw_p39, List.forall_mem_cons.mpr ⟨lw_p40, List.forall_mem_cons.mpr ⟨lw_p41, List.forall_mem_cons.mpr ⟨lw_p42, List.forall_mem_cons.mpr ⟨lw_p43, List.forall_mem_cons.mpr ⟨lw_p44, List.forall_mem_cons.mpr ⟨lw_p45, List.forall_mem_cons.mpr ⟨lw_p46, List.forall_mem_cons.mpr ⟨lw_p47, fun _ h => absurd h List.not_mem_nil⟩⟩⟩⟩⟩⟩⟩⟩⟩⟩⟩⟩⟩⟩⟩⟩
theorem lw_p48 : lw_okq (⟨"ClosedWorldModel", "guarded", "(II)I"⟩, 48) := ⟨⟨by decide +kernel, by decide +kernel⟩, List.mem_of_getElem? (i := 692) (by decide +kernel), List.mem_of_getElem? (i := 940) (by decide +kernel), List.mem_of_getElem? (i := 941) (by decide +kernel)⟩
theorem lw_p49 : lw_okq (⟨"ClosedWorldModel", "spread", "()V"⟩, 48) := ⟨⟨by decide +kernel, by decide +kernel⟩, List.mem_of_getElem? (i := 692) (by decide +kernel), List.mem_of_getElem? (i := 944) (by decide +kernel), List.mem_of_getElem? (i := 945) (by decide +kernel)⟩
theorem lw_p50 : lw_okq (⟨"ClosedWorldModel", "touch", "(I)V"⟩, 48) := ⟨⟨by decide +kernel, by decide +kernel⟩, List.mem_of_getElem? (i := 692) (by decide +kernel), List.mem_of_getElem? (i := 948) (by decide +kernel), List.mem_of_getElem? (i := 949) (by decide +kernel)⟩
theorem lw_p51 : lw_okq (⟨"ClosedWorldModel", "enliven", "(I)V"⟩, 48) := ⟨⟨by decide +kernel, by decide +kernel⟩, List.mem_of_getElem? (i := 692) (by decide +kernel), List.mem_of_getElem? (i := 952) (by decide +kernel), List.mem_of_getElem? (i := 953) (by decide +kernel)⟩
theorem lw_p52 : lw_okq (⟨"ClosedWorldModel", "reach", "(I)V"⟩, 48) := ⟨⟨by decide +kernel, by decide +kernel⟩, List.mem_of_getElem? (i := 692) (by decide +kernel), List.mem_of_getElem? (i := 956) (by decide +kernel), List.mem_of_getElem? (i := 957) (by decide +kernel)⟩
theorem lw_p53 : lw_okq (⟨"ClosedWorldModel", "target", "(II)Z"⟩, 48) := ⟨⟨by decide +kernel, by decide +kernel⟩, List.mem_of_getElem? (i := 692) (by decide +kernel), List.mem_of_getElem? (i := 960) (by decide +kernel), List.mem_of_getElem? (i := 961) (by decide +kernel)⟩
theorem lw_p54 : lw_okq (⟨"ClosedWorldModel", "receiver", "(I)I"⟩, 48) := ⟨⟨by decide +kernel, by decide +kernel⟩, List.mem_of_getElem? (i := 692) (by decide +kernel), List.mem_of_getElem? (i := 964) (by decide +kernel), List.mem_of_getElem? (i := 965) (by decide +kernel)⟩
theorem lw_p55 : lw_okq (⟨"ClosedWorldModel", "reachedAt", "(II)Z"⟩, 48) := ⟨⟨by decide +kernel, by decide +kernel⟩, List.mem_of_getElem? (i := 692) (by decide +kernel), List.mem_of_getElem? (i := 972) (by decide +kernel), List.mem_of_getElem? (i := 973) (by decide +kernel)⟩
theorem lw_p56 : lw_okq (⟨"ClosedWorldModel", "instruct", "()V"⟩, 48) := ⟨⟨by decide +kernel, by decide +kernel⟩, List.mem_of_getElem? (i := 692) (by decide +kernel), List.mem_of_getElem? (i := 988) (by decide +kernel), List.mem_of_getElem? (i := 989) (by decide +kernel)⟩
theorem lw_p57 : lw_okq (⟨"ClosedWorldModel", "trigger", "(I)Z"⟩, 48) := ⟨⟨by decide +kernel, by decide +kernel⟩, List.mem_of_getElem? (i := 692) (by decide +kernel), List.mem_of_getElem? (i := 992) (by decide +kernel), List.mem_of_getElem? (i := 993) (by decide +kernel)⟩
theorem lw_p58 : lw_okq (⟨"ClosedWorldModel", "raise", "(I)V"⟩, 48) := ⟨⟨by decide +kernel, by decide +kernel⟩, List.mem_of_getElem? (i := 692) (by decide +kernel), List.mem_of_getElem? (i := 996) (by decide +kernel), List.mem_of_getElem? (i := 997) (by decide +kernel)⟩
theorem lw_p59 : lw_okq (⟨"ClosedWorldModel", "enter", "(IZ)V"⟩, 48) := ⟨⟨by decide +kernel, by decide +kernel⟩, List.mem_of_getElem? (i := 692) (by decide +kernel), List.mem_of_getElem? (i := 1000) (by decide +kernel), List.mem_of_getElem? (i := 1001) (by decide +kernel)⟩
theorem lw_p60 : lw_okq (⟨"ClosedWorldModel", "call", "(III)V"⟩, 48) := ⟨⟨by decide +kernel, by decide +kernel⟩, List.mem_of_getElem? (i := 692) (by decide +kernel), List.mem_of_getElem? (i := 1004) (by decide +kernel), List.mem_of_getElem? (i := 1005) (by decide +kernel)⟩
theorem lw_p61 : lw_okq (⟨"ClosedWorldModel", "pop", "()I"⟩, 48) := ⟨⟨by decide +kernel, by decide +kernel⟩, List.mem_of_getElem? (i := 692) (by decide +kernel), List.mem_of_getElem? (i := 1008) (by decide +kernel), List.mem_of_getElem? (i := 1009) (by decide +kernel)⟩
theorem lw_p62 : lw_okq (⟨"ClosedWorldModel", "leave", "(I)V"⟩, 48) := ⟨⟨by decide +kernel, by decide +kernel⟩, List.mem_of_getElem? (i := 692) (by decide +kernel), List.mem_of_getElem? (i := 1012) (by decide +kernel), List.mem_of_getElem? (i := 1013) (by decide +kernel)⟩
theorem lw_p63 : lw_okq (⟨"ClosedWorldModel", "push", "(I)V"⟩, 48) := ⟨⟨by decide +kernel, by decide +kernel⟩, List.mem_of_getElem? (i := 692) (by decide +kernel), List.mem_of_getElem? (i := 1016) (by decide +kernel), List.mem_of_getElem? (i := 1017) (by decide +kernel)⟩
def lw_privs_4 : List (MethodName × Nat) := [(⟨"ClosedWorldModel", "guarded", "(II)I"⟩, 48), (⟨"ClosedWorldModel", "spread", "()V"⟩, 48), (⟨"ClosedWorldModel", "touch", "(I)V"⟩, 48), (⟨"ClosedWorldModel", "enliven", "(I)V"⟩, 48), (⟨"ClosedWorldModel", "reach", "(I)V"⟩, 48), (⟨"ClosedWorldModel", "target", "(II)Z"⟩, 48), (⟨"ClosedWorldModel", "receiver", "(I)I"⟩, 48), (⟨"ClosedWorldModel", "reachedAt", "(II)Z"⟩, 48), (⟨"ClosedWorldModel", "instruct", "()V"⟩, 48), (⟨"ClosedWorldModel", "trigger", "(I)Z"⟩, 48), (⟨"ClosedWorldModel", "raise", "(I)V"⟩, 48), (⟨"ClosedWorldModel", "enter", "(IZ)V"⟩, 48), (⟨"ClosedWorldModel", "call", "(III)V"⟩, 48), (⟨"ClosedWorldModel", "pop", "()I"⟩, 48), (⟨"ClosedWorldModel", "leave", "(I)V"⟩, 48), (⟨"ClosedWorldModel", "push", "(I)V"⟩, 48)]
theorem lw_r4 : ∀ q ∈ lw_privs_4, lw_okq q := List.forall_mem_cons.mpr ⟨lw_p48, List.forall_mem_cons.mpr ⟨lw_p49, List.forall_mem_cons.mpr ⟨lw_p50, List.forall_mem_cons.mpr ⟨lw_p51, List.forall_mem_cons.mpr ⟨lw_p52, List.forall_mem_cons.mpr ⟨lw_p53, List.forall_mem_cons.mpr ⟨lw_p54, List.forall_mem_cons.mpr ⟨lw_p55, List.forall_mem_cons.mpr ⟨lw_p56, List.forall_mem_cons.mpr ⟨lw_p57, List.forall_mem_cons.mpr ⟨lw_p58, List.forall_mem_cons.mpr ⟨lw_p59, List.forall_mem_cons.mpr ⟨lw_p60, List.forall_mem_cons.mpr ⟨lw_p61, List.forall_mem_cons.mpr ⟨lw_p62, List.forall_mem_cons.mpr ⟨lw_p63, fun _ h => absurd h List.not_mem_nil⟩⟩⟩⟩⟩⟩⟩⟩⟩⟩⟩⟩⟩⟩⟩⟩
theorem lw_p64 : lw_okq (⟨"ClosedWorldModel", "plain", "(III)I"⟩, 48) := ⟨⟨by decide +kernel, by decide +kernel⟩, List.mem_of_getElem? (i := 692) (by decide +kernel), List.mem_of_getElem? (i := 1020) (by decide +kernel), List.mem_of_getElem? (i := 1021) (by decide +kernel)⟩
theorem lw_p65 : lw_okq (⟨"ClosedWorldModel", "create", "(I)V"⟩, 48) := ⟨⟨by decide +kernel, by decide +kernel⟩, List.mem_of_getElem? (i := 692) (by decide +kernel), List.mem_of_getElem? (i := 1024) (by decide +kernel), List.mem_of_getElem? (i := 1025) (by decide +kernel)⟩
theorem lw_p66 : lw_okq (⟨"ClosedWorldModel", "print", "(I)V"⟩, 48) := ⟨⟨by decide +kernel, by decide +kernel⟩, List.mem_of_getElem? (i := 692) (by decide +kernel), List.mem_of_getElem? (i := 1028) (by decide +kernel), List.mem_of_getElem? (i := 1029) (by decide +kernel)⟩
theorem lw_p67 : lw_okq (⟨"ClosedWorldModel", "begin", "(I)V"⟩, 48) := ⟨⟨by decide +kernel, by decide +kernel⟩, List.mem_of_getElem? (i := 692) (by decide +kernel), List.mem_of_getElem? (i := 1032) (by decide +kernel), List.mem_of_getElem? (i := 1033) (by decide +kernel)⟩
def lw_privs_5 : List (MethodName × Nat) := [(⟨"ClosedWorldModel", "plain", "(III)I"⟩, 48), (⟨"ClosedWorldModel", "create", "(I)V"⟩, 48), (⟨"ClosedWorldModel", "print", "(I)V"⟩, 48), (⟨"ClosedWorldModel", "begin", "(I)V"⟩, 48)]
theorem lw_r5 : ∀ q ∈ lw_privs_5, lw_okq q := List.forall_mem_cons.mpr ⟨lw_p64, List.forall_mem_cons.mpr ⟨lw_p65, List.forall_mem_cons.mpr ⟨lw_p66, List.forall_mem_cons.mpr ⟨lw_p67, fun _ h => absurd h List.not_mem_nil⟩⟩⟩⟩
def lw_privs : List (MethodName × Nat) := lw_privs_1 ++ (lw_privs_2 ++ (lw_privs_3 ++ (lw_privs_4 ++ (lw_privs_5))))
def lw_tbl : List Cond := k2_sels lw_privs ++ tables_1
theorem lw_privs_ok : ∀ q ∈ lw_privs, lw_okq q := by
  show ∀ q ∈ lw_privs_1 ++ (lw_privs_2 ++ (lw_privs_3 ++ (lw_privs_4 ++ (lw_privs_5)))), lw_okq q
  exact List.forall_mem_append.mpr ⟨lw_r1, List.forall_mem_append.mpr ⟨lw_r2, List.forall_mem_append.mpr ⟨lw_r3, List.forall_mem_append.mpr ⟨lw_r4, lw_r5⟩⟩⟩⟩
end
section
def R_Cw : String := "ClosedWorld"
def R_Pr : String := "ClosedWorld$Program"
def R_Ch : String := "ClosedWorld$Checker"
def R_Re : String := "ClosedWorld$Reach"
def R_Ma : String := "ClosedWorld$Machine"
def R_Fr : String := "ClosedWorld$Frame"
def R_Mo : String := "ClosedWorldModel"
def R_Ar : String := "java/util/Arrays"
def R_In : String := "java/lang/Integer"
def R_Ob : String := "java/lang/Object"
def F_Cw : u_T := fun k => match k with
  | 0 => ("ClosedWorld", "program", "LClosedWorld$Program;", true)
  | 1 => ("ClosedWorld", "checker", "LClosedWorld$Checker;", true)
  | 2 => ("ClosedWorld", "reach", "LClosedWorld$Reach;", true)
  | 3 => ("ClosedWorld", "machine", "LClosedWorld$Machine;", true)
  | 4 => ("ClosedWorld", "closed", "Z", false)
  | _ => ("ClosedWorld", "ran", "Z", false)
def t_Cw : Nat → FieldType := fun k => match k with
  | 0 => .object "ClosedWorld$Program"
  | 1 => .object "ClosedWorld$Checker"
  | 2 => .object "ClosedWorld$Reach"
  | 3 => .object "ClosedWorld$Machine"
  | 4 => .boolean
  | _ => .boolean
theorem n_Cw : ∀ a, a < 6 → ∀ b, b < 6 → a ≠ b → (F_Cw a).2.1 ≠ (F_Cw b).2.1 := by decide +kernel
theorem t_Cw_ok : ∀ k, k < 6 → parseFieldDescriptor (F_Cw k).2.2.1 = some (t_Cw k) := by decide +kernel
def F_Pr : u_T := fun k => match k with
  | 0 => ("ClosedWorld$Program", "typeCount", "I", false)
  | 1 => ("ClosedWorld$Program", "methodCount", "I", false)
  | 2 => ("ClosedWorld$Program", "kin", "[I", true)
  | 3 => ("ClosedWorld$Program", "fieldCounts", "[I", true)
  | 4 => ("ClosedWorld$Program", "initialisers", "[I", true)
  | 5 => ("ClosedWorld$Program", "ownMethods", "[[I", true)
  | 6 => ("ClosedWorld$Program", "owners", "[I", true)
  | 7 => ("ClosedWorld$Program", "selectors", "[I", true)
  | 8 => ("ClosedWorld$Program", "inputCounts", "[I", true)
  | 9 => ("ClosedWorld$Program", "lengths", "[I", true)
  | 10 => ("ClosedWorld$Program", "ops", "[[I", true)
  | 11 => ("ClosedWorld$Program", "operands", "[[I", true)
  | 12 => ("ClosedWorld$Program", "guardCounts", "[I", true)
  | 13 => ("ClosedWorld$Program", "froms", "[[I", true)
  | 14 => ("ClosedWorld$Program", "ends", "[[I", true)
  | _ => ("ClosedWorld$Program", "handlers", "[[I", true)
def t_Pr : Nat → FieldType := fun k => match k with
  | 0 => .int
  | 1 => .int
  | 2 => .array .int
  | 3 => .array .int
  | 4 => .array .int
  | 5 => .array (.array .int)
  | 6 => .array .int
  | 7 => .array .int
  | 8 => .array .int
  | 9 => .array .int
  | 10 => .array (.array .int)
  | 11 => .array (.array .int)
  | 12 => .array .int
  | 13 => .array (.array .int)
  | 14 => .array (.array .int)
  | _ => .array (.array .int)
theorem n_Pr : ∀ a, a < 16 → ∀ b, b < 16 → a ≠ b → (F_Pr a).2.1 ≠ (F_Pr b).2.1 := by decide +kernel
theorem t_Pr_ok : ∀ k, k < 16 → parseFieldDescriptor (F_Pr k).2.2.1 = some (t_Pr k) := by decide +kernel
def F_Ch : u_T := fun k => match k with
  | 0 => ("ClosedWorld$Checker", "program", "LClosedWorld$Program;", true)
  | 1 => ("ClosedWorld$Checker", "types", "[I", true)
  | 2 => ("ClosedWorld$Checker", "sizes", "[I", true)
  | 3 => ("ClosedWorld$Checker", "frame", "LClosedWorld$Frame;", true)
  | 4 => ("ClosedWorld$Checker", "method", "I", false)
  | 5 => ("ClosedWorld$Checker", "waiting", "I", false)
  | _ => ("ClosedWorld$Checker", "sound", "Z", false)
def t_Ch : Nat → FieldType := fun k => match k with
  | 0 => .object "ClosedWorld$Program"
  | 1 => .array .int
  | 2 => .array .int
  | 3 => .object "ClosedWorld$Frame"
  | 4 => .int
  | 5 => .int
  | _ => .boolean
theorem n_Ch : ∀ a, a < 7 → ∀ b, b < 7 → a ≠ b → (F_Ch a).2.1 ≠ (F_Ch b).2.1 := by decide +kernel
theorem t_Ch_ok : ∀ k, k < 7 → parseFieldDescriptor (F_Ch k).2.2.1 = some (t_Ch k) := by decide +kernel
def F_Re : u_T := fun k => match k with
  | 0 => ("ClosedWorld$Reach", "program", "LClosedWorld$Program;", true)
  | 1 => ("ClosedWorld$Reach", "checker", "LClosedWorld$Checker;", true)
  | 2 => ("ClosedWorld$Reach", "liveSet", "I", false)
  | _ => ("ClosedWorld$Reach", "madeSet", "I", false)
def t_Re : Nat → FieldType := fun k => match k with
  | 0 => .object "ClosedWorld$Program"
  | 1 => .object "ClosedWorld$Checker"
  | 2 => .int
  | _ => .int
theorem n_Re : ∀ a, a < 4 → ∀ b, b < 4 → a ≠ b → (F_Re a).2.1 ≠ (F_Re b).2.1 := by decide +kernel
theorem t_Re_ok : ∀ k, k < 4 → parseFieldDescriptor (F_Re k).2.2.1 = some (t_Re k) := by decide +kernel
def F_Ma : u_T := fun k => match k with
  | 0 => ("ClosedWorld$Machine", "program", "LClosedWorld$Program;", true)
  | 1 => ("ClosedWorld$Machine", "frames", "[LClosedWorld$Frame;", true)
  | 2 => ("ClosedWorld$Machine", "statics", "[I", true)
  | 3 => ("ClosedWorld$Machine", "orders", "[I", true)
  | 4 => ("ClosedWorld$Machine", "objectTypes", "[I", true)
  | 5 => ("ClosedWorld$Machine", "fields", "[I", true)
  | 6 => ("ClosedWorld$Machine", "heldPrints", "[I", true)
  | 7 => ("ClosedWorld$Machine", "begunCount", "I", false)
  | 8 => ("ClosedWorld$Machine", "objectCount", "I", false)
  | 9 => ("ClosedWorld$Machine", "printCount", "I", false)
  | 10 => ("ClosedWorld$Machine", "stepCount", "I", false)
  | 11 => ("ClosedWorld$Machine", "fuel", "I", false)
  | _ => ("ClosedWorld$Machine", "value", "I", false)
def t_Ma : Nat → FieldType := fun k => match k with
  | 0 => .object "ClosedWorld$Program"
  | 1 => .array (.object "ClosedWorld$Frame")
  | 2 => .array .int
  | 3 => .array .int
  | 4 => .array .int
  | 5 => .array .int
  | 6 => .array .int
  | 7 => .int
  | 8 => .int
  | 9 => .int
  | 10 => .int
  | 11 => .int
  | _ => .int
theorem n_Ma : ∀ a, a < 13 → ∀ b, b < 13 → a ≠ b → (F_Ma a).2.1 ≠ (F_Ma b).2.1 := by decide +kernel
theorem t_Ma_ok : ∀ k, k < 13 → parseFieldDescriptor (F_Ma k).2.2.1 = some (t_Ma k) := by decide +kernel
def F_Fr : u_T := fun k => match k with
  | 0 => ("ClosedWorld$Frame", "places", "[I", true)
  | 1 => ("ClosedWorld$Frame", "size", "I", false)
  | _ => ("ClosedWorld$Frame", "next", "I", false)
def t_Fr : Nat → FieldType := fun k => match k with
  | 0 => .array .int
  | 1 => .int
  | _ => .int
theorem n_Fr : ∀ a, a < 3 → ∀ b, b < 3 → a ≠ b → (F_Fr a).2.1 ≠ (F_Fr b).2.1 := by decide +kernel
theorem t_Fr_ok : ∀ k, k < 3 → parseFieldDescriptor (F_Fr k).2.2.1 = some (t_Fr k) := by decide +kernel
def F_Mo : u_T := fun k => match k with
  | 0 => ("ClosedWorldModel", "classes", "I", false)
  | 1 => ("ClosedWorldModel", "parent", "[I", true)
  | 2 => ("ClosedWorldModel", "fields", "[I", true)
  | 3 => ("ClosedWorldModel", "first", "[I", true)
  | 4 => ("ClosedWorldModel", "methods", "I", false)
  | 5 => ("ClosedWorldModel", "home", "[I", true)
  | 6 => ("ClosedWorldModel", "selector", "[I", true)
  | 7 => ("ClosedWorldModel", "wants", "[I", true)
  | 8 => ("ClosedWorldModel", "size", "[I", true)
  | 9 => ("ClosedWorldModel", "ops", "[I", true)
  | 10 => ("ClosedWorldModel", "as", "[I", true)
  | 11 => ("ClosedWorldModel", "guards", "[I", true)
  | 12 => ("ClosedWorldModel", "from", "[I", true)
  | 13 => ("ClosedWorldModel", "to", "[I", true)
  | 14 => ("ClosedWorldModel", "handler", "[I", true)
  | 15 => ("ClosedWorldModel", "closed", "Z", false)
  | 16 => ("ClosedWorldModel", "reached", "[Z", true)
  | 17 => ("ClosedWorldModel", "high", "[I", true)
  | 18 => ("ClosedWorldModel", "types", "[I", true)
  | 19 => ("ClosedWorldModel", "now", "[I", true)
  | 20 => ("ClosedWorldModel", "n", "I", false)
  | 21 => ("ClosedWorldModel", "bad", "Z", false)
  | 22 => ("ClosedWorldModel", "more", "Z", false)
  | 23 => ("ClosedWorldModel", "alive", "[Z", true)
  | 24 => ("ClosedWorldModel", "touched", "[Z", true)
  | 25 => ("ClosedWorldModel", "made", "[Z", true)
  | 26 => ("ClosedWorldModel", "ran", "Z", false)
  | 27 => ("ClosedWorldModel", "started", "Z", false)
  | 28 => ("ClosedWorldModel", "outcome", "I", false)
  | 29 => ("ClosedWorldModel", "result", "I", false)
  | 30 => ("ClosedWorldModel", "steps", "I", false)
  | 31 => ("ClosedWorldModel", "fuel", "I", false)
  | 32 => ("ClosedWorldModel", "frames", "I", false)
  | 33 => ("ClosedWorldModel", "method", "[I", true)
  | 34 => ("ClosedWorldModel", "pc", "[I", true)
  | 35 => ("ClosedWorldModel", "top", "[I", true)
  | 36 => ("ClosedWorldModel", "initial", "[Z", true)
  | 37 => ("ClosedWorldModel", "again", "[Z", true)
  | 38 => ("ClosedWorldModel", "local", "[I", true)
  | 39 => ("ClosedWorldModel", "stack", "[I", true)
  | 40 => ("ClosedWorldModel", "objects", "I", false)
  | 41 => ("ClosedWorldModel", "kind", "[I", true)
  | 42 => ("ClosedWorldModel", "value", "[I", true)
  | 43 => ("ClosedWorldModel", "number", "[I", true)
  | 44 => ("ClosedWorldModel", "order", "[I", true)
  | 45 => ("ClosedWorldModel", "begins", "I", false)
  | 46 => ("ClosedWorldModel", "prints", "I", false)
  | _ => ("ClosedWorldModel", "printed", "[I", true)
def t_Mo : Nat → FieldType := fun k => match k with
  | 0 => .int
  | 1 => .array .int
  | 2 => .array .int
  | 3 => .array .int
  | 4 => .int
  | 5 => .array .int
  | 6 => .array .int
  | 7 => .array .int
  | 8 => .array .int
  | 9 => .array .int
  | 10 => .array .int
  | 11 => .array .int
  | 12 => .array .int
  | 13 => .array .int
  | 14 => .array .int
  | 15 => .boolean
  | 16 => .array .boolean
  | 17 => .array .int
  | 18 => .array .int
  | 19 => .array .int
  | 20 => .int
  | 21 => .boolean
  | 22 => .boolean
  | 23 => .array .boolean
  | 24 => .array .boolean
  | 25 => .array .boolean
  | 26 => .boolean
  | 27 => .boolean
  | 28 => .int
  | 29 => .int
  | 30 => .int
  | 31 => .int
  | 32 => .int
  | 33 => .array .int
  | 34 => .array .int
  | 35 => .array .int
  | 36 => .array .boolean
  | 37 => .array .boolean
  | 38 => .array .int
  | 39 => .array .int
  | 40 => .int
  | 41 => .array .int
  | 42 => .array .int
  | 43 => .array .int
  | 44 => .array .int
  | 45 => .int
  | 46 => .int
  | _ => .array .int
theorem n_Mo : ∀ a, a < 48 → ∀ b, b < 48 → a ≠ b → (F_Mo a).2.1 ≠ (F_Mo b).2.1 := by decide +kernel
theorem t_Mo_ok : ∀ k, k < 48 → parseFieldDescriptor (F_Mo k).2.2.1 = some (t_Mo k) := by decide +kernel
abbrev b_Cw_init : ByteArray := prog_1_method_1_code
def y_Cw_init : MethodName := ⟨R_Cw, "<init>", "()V"⟩
abbrev b_Ob_init : ByteArray := object_method_1_code
def y_Ob_init : MethodName := ⟨R_Ob, "<init>", "()V"⟩
abbrev b_Pr_init : ByteArray := prog_6_method_1_code
def y_Pr_init : MethodName := ⟨R_Pr, "<init>", "()V"⟩
abbrev b_Ch_init : ByteArray := prog_2_method_1_code
def y_Ch_init : MethodName := ⟨R_Ch, "<init>", "(LClosedWorld$Program;)V"⟩
abbrev b_Fr_init : ByteArray := prog_3_method_1_code
def y_Fr_init : MethodName := ⟨R_Fr, "<init>", "()V"⟩
abbrev b_Re_init : ByteArray := prog_7_method_1_code
def y_Re_init : MethodName := ⟨R_Re, "<init>", "(LClosedWorld$Program;LClosedWorld$Checker;)V"⟩
abbrev b_Ma_init : ByteArray := prog_4_method_1_code
def y_Ma_init : MethodName := ⟨R_Ma, "<init>", "(LClosedWorld$Program;)V"⟩
abbrev b_Cw_type : ByteArray := prog_1_method_2_code
def y_Cw_type : MethodName := ⟨R_Cw, "type", "(II)I"⟩
abbrev b_Pr_addType : ByteArray := prog_6_method_2_code
def y_Pr_addType : MethodName := ⟨R_Pr, "addType", "(II)I"⟩
abbrev b_Pr_isType : ByteArray := prog_6_method_8_code
def y_Pr_isType : MethodName := ⟨R_Pr, "isType", "(I)Z"⟩
abbrev b_Pr_fieldsOf : ByteArray := prog_6_method_17_code
def y_Pr_fieldsOf : MethodName := ⟨R_Pr, "fieldsOf", "(I)I"⟩
abbrev b_Pr_kinOf : ByteArray := prog_6_method_14_code
def y_Pr_kinOf : MethodName := ⟨R_Pr, "kinOf", "(I)I"⟩
abbrev b_Ar_fill : ByteArray := prog_11_method_103_code
def y_Ar_fill : MethodName := ⟨R_Ar, "fill", "([II)V"⟩
abbrev b_Cw_reopenUnlessNone : ByteArray := prog_1_method_21_code
def y_Cw_reopenUnlessNone : MethodName := ⟨R_Cw, "reopenUnlessNone", "(I)I"⟩
abbrev b_Cw_reopenIf : ByteArray := prog_1_method_22_code
def y_Cw_reopenIf : MethodName := ⟨R_Cw, "reopenIf", "(Z)Z"⟩
abbrev b_Cw_method : ByteArray := prog_1_method_3_code
def y_Cw_method : MethodName := ⟨R_Cw, "method", "(III)I"⟩
abbrev b_Pr_addMethod : ByteArray := prog_6_method_3_code
def y_Pr_addMethod : MethodName := ⟨R_Pr, "addMethod", "(III)I"⟩
abbrev b_Cw_within : ByteArray := prog_1_method_23_code
def y_Cw_within : MethodName := ⟨R_Cw, "within", "(II)Z"⟩
abbrev b_Cw_initialiser : ByteArray := prog_1_method_4_code
def y_Cw_initialiser : MethodName := ⟨R_Cw, "initialiser", "(II)Z"⟩
abbrev b_Pr_setInitialiser : ByteArray := prog_6_method_4_code
def y_Pr_setInitialiser : MethodName := ⟨R_Pr, "setInitialiser", "(II)Z"⟩
abbrev b_Pr_isPlain : ByteArray := prog_6_method_10_code
def y_Pr_isPlain : MethodName := ⟨R_Pr, "isPlain", "(I)Z"⟩
abbrev b_Pr_isMethod : ByteArray := prog_6_method_9_code
def y_Pr_isMethod : MethodName := ⟨R_Pr, "isMethod", "(I)Z"⟩
abbrev b_Cw_code : ByteArray := prog_1_method_5_code
def y_Cw_code : MethodName := ⟨R_Cw, "code", "(III)I"⟩
abbrev b_Pr_addCode : ByteArray := prog_6_method_5_code
def y_Pr_addCode : MethodName := ⟨R_Pr, "addCode", "(III)I"⟩
abbrev b_Pr_operandFits : ByteArray := prog_6_method_6_code
def y_Pr_operandFits : MethodName := ⟨R_Pr, "operandFits", "(II)Z"⟩
abbrev b_Cw_guard : ByteArray := prog_1_method_6_code
def y_Cw_guard : MethodName := ⟨R_Cw, "guard", "(IIII)Z"⟩
abbrev b_Pr_addGuard : ByteArray := prog_6_method_7_code
def y_Pr_addGuard : MethodName := ⟨R_Pr, "addGuard", "(IIII)Z"⟩
abbrev b_Cw_close : ByteArray := prog_1_method_7_code
def y_Cw_close : MethodName := ⟨R_Cw, "close", "()I"⟩
abbrev b_Pr_hasStart : ByteArray := prog_6_method_11_code
def y_Pr_hasStart : MethodName := ⟨R_Pr, "hasStart", "()Z"⟩
abbrev b_Pr_methodCount : ByteArray := prog_6_method_13_code
def y_Pr_methodCount : MethodName := ⟨R_Pr, "methodCount", "()I"⟩
abbrev b_Ch_isSound : ByteArray := prog_2_method_2_code
def y_Ch_isSound : MethodName := ⟨R_Ch, "isSound", "(I)Z"⟩
abbrev b_Ch_rowOf : ByteArray := prog_2_method_6_code
def y_Ch_rowOf : MethodName := ⟨R_Ch, "rowOf", "(II)I"⟩
abbrev b_Ar_fill4 : ByteArray := prog_11_method_104_code
def y_Ar_fill4 : MethodName := ⟨R_Ar, "fill", "([IIII)V"⟩
abbrev b_Ar_rangeCheck : ByteArray := prog_11_method_30_code
def y_Ar_rangeCheck : MethodName := ⟨R_Ar, "rangeCheck", "(III)V"⟩
abbrev b_Ch_enterStart : ByteArray := prog_2_method_7_code
def y_Ch_enterStart : MethodName := ⟨R_Ch, "enterStart", "()V"⟩
abbrev b_Fr_clear : ByteArray := prog_3_method_2_code
def y_Fr_clear : MethodName := ⟨R_Fr, "clear", "()V"⟩
abbrev b_Pr_inputsOf : ByteArray := prog_6_method_20_code
def y_Pr_inputsOf : MethodName := ⟨R_Pr, "inputsOf", "(I)I"⟩
abbrev b_Fr_setPlace : ByteArray := prog_3_method_10_code
def y_Fr_setPlace : MethodName := ⟨R_Fr, "setPlace", "(II)V"⟩
abbrev b_Pr_ownerOf : ByteArray := prog_6_method_19_code
def y_Pr_ownerOf : MethodName := ⟨R_Pr, "ownerOf", "(I)I"⟩
abbrev b_Ch_arriveAt : ByteArray := prog_2_method_11_code
def y_Ch_arriveAt : MethodName := ⟨R_Ch, "arriveAt", "(I)V"⟩
abbrev b_Pr_lengthOf : ByteArray := prog_6_method_21_code
def y_Pr_lengthOf : MethodName := ⟨R_Pr, "lengthOf", "(I)I"⟩
abbrev b_Fr_size : ByteArray := prog_3_method_5_code
def y_Fr_size : MethodName := ⟨R_Fr, "size", "()I"⟩
abbrev b_Ch_need : ByteArray := prog_2_method_15_code
def y_Ch_need : MethodName := ⟨R_Ch, "need", "(Z)V"⟩
abbrev b_Fr_place : ByteArray := prog_3_method_9_code
def y_Fr_place : MethodName := ⟨R_Fr, "place", "(I)I"⟩
abbrev b_Ch_join : ByteArray := prog_2_method_12_code
def y_Ch_join : MethodName := ⟨R_Ch, "join", "(II)I"⟩
abbrev b_Pr_nearestCommon : ByteArray := prog_6_method_16_code
def y_Pr_nearestCommon : MethodName := ⟨R_Pr, "nearestCommon", "(II)I"⟩
abbrev b_Cw_has : ByteArray := prog_1_method_24_code
def y_Cw_has : MethodName := ⟨R_Cw, "has", "(II)Z"⟩
abbrev b_Ch_firstWaiting : ByteArray := prog_2_method_8_code
def y_Ch_firstWaiting : MethodName := ⟨R_Ch, "firstWaiting", "()I"⟩
abbrev b_Ch_visit : ByteArray := prog_2_method_9_code
def y_Ch_visit : MethodName := ⟨R_Ch, "visit", "(I)V"⟩
abbrev b_Pr_handlerOf : ByteArray := prog_6_method_24_code
def y_Pr_handlerOf : MethodName := ⟨R_Pr, "handlerOf", "(II)I"⟩
abbrev b_Ch_recall : ByteArray := prog_2_method_10_code
def y_Ch_recall : MethodName := ⟨R_Ch, "recall", "(I)V"⟩
abbrev b_Fr_setSize : ByteArray := prog_3_method_6_code
def y_Fr_setSize : MethodName := ⟨R_Fr, "setSize", "(I)V"⟩
abbrev b_Fr_goOnWith : ByteArray := prog_3_method_4_code
def y_Fr_goOnWith : MethodName := ⟨R_Fr, "goOnWith", "(II)V"⟩
abbrev b_Fr_push : ByteArray := prog_3_method_11_code
def y_Fr_push : MethodName := ⟨R_Fr, "push", "(I)V"⟩
abbrev b_Pr_opOf : ByteArray := prog_6_method_22_code
def y_Pr_opOf : MethodName := ⟨R_Pr, "opOf", "(II)I"⟩
abbrev b_Pr_operandOf : ByteArray := prog_6_method_23_code
def y_Pr_operandOf : MethodName := ⟨R_Pr, "operandOf", "(II)I"⟩
abbrev b_Ch_apply : ByteArray := prog_2_method_13_code
def y_Ch_apply : MethodName := ⟨R_Ch, "apply", "(II)V"⟩
abbrev b_Ch_put : ByteArray := prog_2_method_16_code
def y_Ch_put : MethodName := ⟨R_Ch, "put", "(I)V"⟩
abbrev b_Ch_takeAny : ByteArray := prog_2_method_17_code
def y_Ch_takeAny : MethodName := ⟨R_Ch, "takeAny", "()I"⟩
abbrev b_Fr_pop : ByteArray := prog_3_method_12_code
def y_Fr_pop : MethodName := ⟨R_Fr, "pop", "()I"⟩
abbrev b_Ch_takeNumbers : ByteArray := prog_2_method_18_code
def y_Ch_takeNumbers : MethodName := ⟨R_Ch, "takeNumbers", "(I)V"⟩
abbrev b_Ch_applyToObject : ByteArray := prog_2_method_14_code
def y_Ch_applyToObject : MethodName := ⟨R_Ch, "applyToObject", "(II)V"⟩
abbrev b_Ch_takeObject : ByteArray := prog_2_method_19_code
def y_Ch_takeObject : MethodName := ⟨R_Ch, "takeObject", "()I"⟩
abbrev b_Pr_answering : ByteArray := prog_6_method_25_code
def y_Pr_answering : MethodName := ⟨R_Pr, "answering", "(II)I"⟩
abbrev b_Re_find : ByteArray := prog_7_method_2_code
def y_Re_find : MethodName := ⟨R_Re, "find", "()V"⟩
abbrev b_Re_reachCall : ByteArray := prog_7_method_7_code
def y_Re_reachCall : MethodName := ⟨R_Re, "reachCall", "(I)V"⟩
abbrev b_Re_touch : ByteArray := prog_7_method_8_code
def y_Re_touch : MethodName := ⟨R_Re, "touch", "(I)V"⟩
abbrev b_Pr_initialiserOf : ByteArray := prog_6_method_18_code
def y_Pr_initialiserOf : MethodName := ⟨R_Pr, "initialiserOf", "(I)I"⟩
abbrev b_Pr_isOf : ByteArray := prog_6_method_15_code
def y_Pr_isOf : MethodName := ⟨R_Pr, "isOf", "(II)Z"⟩
abbrev b_Re_followLive : ByteArray := prog_7_method_5_code
def y_Re_followLive : MethodName := ⟨R_Re, "followLive", "()V"⟩
abbrev b_Re_isLive : ByteArray := prog_7_method_3_code
def y_Re_isLive : MethodName := ⟨R_Re, "isLive", "(I)Z"⟩
abbrev b_Ch_isReached : ByteArray := prog_2_method_3_code
def y_Ch_isReached : MethodName := ⟨R_Ch, "isReached", "(II)Z"⟩
abbrev b_Re_follow : ByteArray := prog_7_method_6_code
def y_Re_follow : MethodName := ⟨R_Re, "follow", "(II)V"⟩
abbrev b_Re_targetSet : ByteArray := prog_7_method_4_code
def y_Re_targetSet : MethodName := ⟨R_Re, "targetSet", "(II)I"⟩
abbrev b_Ch_receiverAt : ByteArray := prog_2_method_5_code
def y_Ch_receiverAt : MethodName := ⟨R_Ch, "receiverAt", "(II)I"⟩
abbrev b_Pr_typeCount : ByteArray := prog_6_method_12_code
def y_Pr_typeCount : MethodName := ⟨R_Pr, "typeCount", "()I"⟩
abbrev b_Cw_typeAt : ByteArray := prog_1_method_8_code
def y_Cw_typeAt : MethodName := ⟨R_Cw, "typeAt", "(III)I"⟩
abbrev b_Ch_typeOf : ByteArray := prog_2_method_4_code
def y_Ch_typeOf : MethodName := ⟨R_Ch, "typeOf", "(III)I"⟩
abbrev b_Cw_answer : ByteArray := prog_1_method_9_code
def y_Cw_answer : MethodName := ⟨R_Cw, "answer", "(II)I"⟩
abbrev b_Cw_slot : ByteArray := prog_1_method_10_code
def y_Cw_slot : MethodName := ⟨R_Cw, "slot", "(II)I"⟩
abbrev b_Pr_slotOf : ByteArray := prog_6_method_26_code
def y_Pr_slotOf : MethodName := ⟨R_Pr, "slotOf", "(II)I"⟩
abbrev b_In_bitCount : ByteArray := prog_10_method_49_code
def y_In_bitCount : MethodName := ⟨R_In, "bitCount", "(I)I"⟩
abbrev b_Cw_live : ByteArray := prog_1_method_11_code
def y_Cw_live : MethodName := ⟨R_Cw, "live", "(I)Z"⟩
abbrev b_Cw_targets : ByteArray := prog_1_method_12_code
def y_Cw_targets : MethodName := ⟨R_Cw, "targets", "(II)I"⟩
abbrev b_Cw_run : ByteArray := prog_1_method_13_code
def y_Cw_run : MethodName := ⟨R_Cw, "run", "(II)I"⟩
abbrev b_Ma_start : ByteArray := prog_4_method_2_code
def y_Ma_start : MethodName := ⟨R_Ma, "start", "(II)I"⟩
abbrev b_Ma_trigger : ByteArray := prog_4_method_16_code
def y_Ma_trigger : MethodName := ⟨R_Ma, "trigger", "(II)I"⟩
abbrev b_Ma_perform : ByteArray := prog_4_method_11_code
def y_Ma_perform : MethodName := ⟨R_Ma, "perform", "(II)I"⟩
abbrev b_Ma_toss : ByteArray := prog_4_method_10_code
def y_Ma_toss : MethodName := ⟨R_Ma, "toss", "(I)I"⟩
abbrev b_Fr_beginFrom : ByteArray := prog_3_method_3_code
def y_Fr_beginFrom : MethodName := ⟨R_Fr, "beginFrom", "(LClosedWorld$Frame;I)V"⟩
abbrev b_Fr_next : ByteArray := prog_3_method_7_code
def y_Fr_next : MethodName := ⟨R_Fr, "next", "()I"⟩
abbrev b_Fr_setNext : ByteArray := prog_3_method_8_code
def y_Fr_setNext : MethodName := ⟨R_Fr, "setNext", "(I)V"⟩
abbrev b_Ma_execute : ByteArray := prog_4_method_12_code
def y_Ma_execute : MethodName := ⟨R_Ma, "execute", "(III)I"⟩
abbrev b_Ma_calculate : ByteArray := prog_4_method_21_code
def y_Ma_calculate : MethodName := ⟨R_Ma, "calculate", "(ILClosedWorld$Frame;)I"⟩
abbrev b_Ma_print : ByteArray := prog_4_method_22_code
def y_Ma_print : MethodName := ⟨R_Ma, "print", "(I)V"⟩
abbrev b_Ma_accessField : ByteArray := prog_4_method_19_code
def y_Ma_accessField : MethodName := ⟨R_Ma, "accessField", "(IILClosedWorld$Frame;)I"⟩
abbrev b_Ma_isNull : ByteArray := prog_4_method_18_code
def y_Ma_isNull : MethodName := ⟨R_Ma, "isNull", "(I)Z"⟩
abbrev b_Ma_testType : ByteArray := prog_4_method_20_code
def y_Ma_testType : MethodName := ⟨R_Ma, "testType", "(IILClosedWorld$Frame;)I"⟩
abbrev b_Ma_send : ByteArray := prog_4_method_14_code
def y_Ma_send : MethodName := ⟨R_Ma, "send", "(II)I"⟩
abbrev b_Fr_second : ByteArray := prog_3_method_13_code
def y_Fr_second : MethodName := ⟨R_Fr, "second", "()I"⟩
abbrev b_Ma_receive : ByteArray := prog_4_method_15_code
def y_Ma_receive : MethodName := ⟨R_Ma, "receive", "(ILClosedWorld$Frame;)I"⟩
abbrev b_Ma_executeTriggering : ByteArray := prog_4_method_13_code
def y_Ma_executeTriggering : MethodName := ⟨R_Ma, "executeTriggering", "(III)I"⟩
abbrev b_Ma_makeObject : ByteArray := prog_4_method_17_code
def y_Ma_makeObject : MethodName := ⟨R_Ma, "makeObject", "(ILClosedWorld$Frame;)I"⟩
abbrev b_Cw_result : ByteArray := prog_1_method_14_code
def y_Cw_result : MethodName := ⟨R_Cw, "result", "()I"⟩
abbrev b_Ma_finalValue : ByteArray := prog_4_method_3_code
def y_Ma_finalValue : MethodName := ⟨R_Ma, "finalValue", "()I"⟩
abbrev b_Cw_steps : ByteArray := prog_1_method_15_code
def y_Cw_steps : MethodName := ⟨R_Cw, "steps", "()I"⟩
abbrev b_Ma_stepCount : ByteArray := prog_4_method_4_code
def y_Ma_stepCount : MethodName := ⟨R_Ma, "stepCount", "()I"⟩
abbrev b_Cw_prints : ByteArray := prog_1_method_16_code
def y_Cw_prints : MethodName := ⟨R_Cw, "prints", "()I"⟩
abbrev b_Ma_printCount : ByteArray := prog_4_method_5_code
def y_Ma_printCount : MethodName := ⟨R_Ma, "printCount", "()I"⟩
abbrev b_Cw_printed : ByteArray := prog_1_method_17_code
def y_Cw_printed : MethodName := ⟨R_Cw, "printed", "(I)I"⟩
abbrev b_Ma_printOf : ByteArray := prog_4_method_7_code
def y_Ma_printOf : MethodName := ⟨R_Ma, "printOf", "(I)I"⟩
abbrev b_Cw_begun : ByteArray := prog_1_method_18_code
def y_Cw_begun : MethodName := ⟨R_Cw, "begun", "(I)I"⟩
abbrev b_Ma_orderOf : ByteArray := prog_4_method_8_code
def y_Ma_orderOf : MethodName := ⟨R_Ma, "orderOf", "(I)I"⟩
abbrev b_Cw_objects : ByteArray := prog_1_method_19_code
def y_Cw_objects : MethodName := ⟨R_Cw, "objects", "()I"⟩
abbrev b_Ma_objectCount : ByteArray := prog_4_method_6_code
def y_Ma_objectCount : MethodName := ⟨R_Ma, "objectCount", "()I"⟩
abbrev b_Cw_kept : ByteArray := prog_1_method_20_code
def y_Cw_kept : MethodName := ⟨R_Cw, "kept", "(I)I"⟩
abbrev b_Ma_staticOf : ByteArray := prog_4_method_9_code
def y_Ma_staticOf : MethodName := ⟨R_Ma, "staticOf", "(I)I"⟩
abbrev b_Mo_init : ByteArray := prog_9_method_1_code
def y_Mo_init : MethodName := ⟨R_Mo, "<init>", "()V"⟩
abbrev b_Mo_type : ByteArray := prog_9_method_6_code
def y_Mo_type : MethodName := ⟨R_Mo, "type", "(II)I"⟩
abbrev b_Mo_within : ByteArray := prog_9_method_2_code
def y_Mo_within : MethodName := ⟨R_Mo, "within", "(II)Z"⟩
abbrev b_Mo_width : ByteArray := prog_9_method_5_code
def y_Mo_width : MethodName := ⟨R_Mo, "width", "(I)I"⟩
abbrev b_Mo_changed : ByteArray := prog_9_method_3_code
def y_Mo_changed : MethodName := ⟨R_Mo, "changed", "()V"⟩
abbrev b_Mo_method : ByteArray := prog_9_method_8_code
def y_Mo_method : MethodName := ⟨R_Mo, "method", "(III)I"⟩
abbrev b_Mo_ownMethod : ByteArray := prog_9_method_7_code
def y_Mo_ownMethod : MethodName := ⟨R_Mo, "ownMethod", "(II)I"⟩
abbrev b_Mo_initialiser : ByteArray := prog_9_method_9_code
def y_Mo_initialiser : MethodName := ⟨R_Mo, "initialiser", "(II)Z"⟩
abbrev b_Mo_code : ByteArray := prog_9_method_11_code
def y_Mo_code : MethodName := ⟨R_Mo, "code", "(III)I"⟩
abbrev b_Mo_fits : ByteArray := prog_9_method_10_code
def y_Mo_fits : MethodName := ⟨R_Mo, "fits", "(II)Z"⟩
abbrev b_Mo_guard : ByteArray := prog_9_method_12_code
def y_Mo_guard : MethodName := ⟨R_Mo, "guard", "(IIII)Z"⟩
abbrev b_Mo_answer : ByteArray := prog_9_method_14_code
def y_Mo_answer : MethodName := ⟨R_Mo, "answer", "(II)I"⟩
abbrev b_Mo_slot : ByteArray := prog_9_method_17_code
def y_Mo_slot : MethodName := ⟨R_Mo, "slot", "(II)I"⟩
abbrev b_Mo_maker : ByteArray := prog_9_method_16_code
def y_Mo_maker : MethodName := ⟨R_Mo, "maker", "(II)I"⟩
abbrev b_Mo_before : ByteArray := prog_9_method_15_code
def y_Mo_before : MethodName := ⟨R_Mo, "before", "(II)I"⟩
abbrev b_Mo_isOf : ByteArray := prog_9_method_4_code
def y_Mo_isOf : MethodName := ⟨R_Mo, "isOf", "(II)Z"⟩
abbrev b_Mo_close : ByteArray := prog_9_method_26_code
def y_Mo_close : MethodName := ⟨R_Mo, "close", "()I"⟩
abbrev b_Mo_sound : ByteArray := prog_9_method_25_code
def y_Mo_sound : MethodName := ⟨R_Mo, "sound", "(I)Z"⟩
abbrev b_Mo_arrive : ByteArray := prog_9_method_19_code
def y_Mo_arrive : MethodName := ⟨R_Mo, "arrive", "(II)V"⟩
abbrev b_Mo_join : ByteArray := prog_9_method_18_code
def y_Mo_join : MethodName := ⟨R_Mo, "join", "(II)I"⟩
abbrev b_Mo_flow : ByteArray := prog_9_method_23_code
def y_Mo_flow : MethodName := ⟨R_Mo, "flow", "(II)V"⟩
abbrev b_Mo_load : ByteArray := prog_9_method_22_code
def y_Mo_load : MethodName := ⟨R_Mo, "load", "(I)V"⟩
abbrev b_Mo_effect : ByteArray := prog_9_method_24_code
def y_Mo_effect : MethodName := ⟨R_Mo, "effect", "(II)V"⟩
abbrev b_Mo_take : ByteArray := prog_9_method_20_code
def y_Mo_take : MethodName := ⟨R_Mo, "take", "(I)I"⟩
abbrev b_Mo_give : ByteArray := prog_9_method_21_code
def y_Mo_give : MethodName := ⟨R_Mo, "give", "(I)V"⟩
abbrev b_Mo_guarded : ByteArray := prog_9_method_13_code
def y_Mo_guarded : MethodName := ⟨R_Mo, "guarded", "(II)I"⟩
abbrev b_Mo_spread : ByteArray := prog_9_method_33_code
def y_Mo_spread : MethodName := ⟨R_Mo, "spread", "()V"⟩
abbrev b_Mo_touch : ByteArray := prog_9_method_29_code
def y_Mo_touch : MethodName := ⟨R_Mo, "touch", "(I)V"⟩
abbrev b_Mo_enliven : ByteArray := prog_9_method_30_code
def y_Mo_enliven : MethodName := ⟨R_Mo, "enliven", "(I)V"⟩
abbrev b_Mo_reach : ByteArray := prog_9_method_34_code
def y_Mo_reach : MethodName := ⟨R_Mo, "reach", "(I)V"⟩
abbrev b_Mo_target : ByteArray := prog_9_method_32_code
def y_Mo_target : MethodName := ⟨R_Mo, "target", "(II)Z"⟩
abbrev b_Mo_receiver : ByteArray := prog_9_method_31_code
def y_Mo_receiver : MethodName := ⟨R_Mo, "receiver", "(I)I"⟩
abbrev b_Mo_typeAt : ByteArray := prog_9_method_28_code
def y_Mo_typeAt : MethodName := ⟨R_Mo, "typeAt", "(III)I"⟩
abbrev b_Mo_reachedAt : ByteArray := prog_9_method_27_code
def y_Mo_reachedAt : MethodName := ⟨R_Mo, "reachedAt", "(II)Z"⟩
abbrev b_Mo_live : ByteArray := prog_9_method_35_code
def y_Mo_live : MethodName := ⟨R_Mo, "live", "(I)Z"⟩
abbrev b_Mo_targets : ByteArray := prog_9_method_36_code
def y_Mo_targets : MethodName := ⟨R_Mo, "targets", "(II)I"⟩
abbrev b_Mo_run : ByteArray := prog_9_method_37_code
def y_Mo_run : MethodName := ⟨R_Mo, "run", "(II)I"⟩
abbrev b_Mo_instruct : ByteArray := prog_9_method_44_code
def y_Mo_instruct : MethodName := ⟨R_Mo, "instruct", "()V"⟩
abbrev b_Mo_trigger : ByteArray := prog_9_method_40_code
def y_Mo_trigger : MethodName := ⟨R_Mo, "trigger", "(I)Z"⟩
abbrev b_Mo_raise : ByteArray := prog_9_method_41_code
def y_Mo_raise : MethodName := ⟨R_Mo, "raise", "(I)V"⟩
abbrev b_Mo_enter : ByteArray := prog_9_method_39_code
def y_Mo_enter : MethodName := ⟨R_Mo, "enter", "(IZ)V"⟩
abbrev b_Mo_call : ByteArray := prog_9_method_45_code
def y_Mo_call : MethodName := ⟨R_Mo, "call", "(III)V"⟩
abbrev b_Mo_pop : ByteArray := prog_9_method_42_code
def y_Mo_pop : MethodName := ⟨R_Mo, "pop", "()I"⟩
abbrev b_Mo_leave : ByteArray := prog_9_method_46_code
def y_Mo_leave : MethodName := ⟨R_Mo, "leave", "(I)V"⟩
abbrev b_Mo_push : ByteArray := prog_9_method_43_code
def y_Mo_push : MethodName := ⟨R_Mo, "push", "(I)V"⟩
abbrev b_Mo_plain : ByteArray := prog_9_method_47_code
def y_Mo_plain : MethodName := ⟨R_Mo, "plain", "(III)I"⟩
abbrev b_Mo_create : ByteArray := prog_9_method_48_code
def y_Mo_create : MethodName := ⟨R_Mo, "create", "(I)V"⟩
abbrev b_Mo_print : ByteArray := prog_9_method_49_code
def y_Mo_print : MethodName := ⟨R_Mo, "print", "(I)V"⟩
abbrev b_Mo_begin : ByteArray := prog_9_method_38_code
def y_Mo_begin : MethodName := ⟨R_Mo, "begin", "(I)V"⟩
abbrev b_Mo_result : ByteArray := prog_9_method_50_code
def y_Mo_result : MethodName := ⟨R_Mo, "result", "()I"⟩
abbrev b_Mo_steps : ByteArray := prog_9_method_51_code
def y_Mo_steps : MethodName := ⟨R_Mo, "steps", "()I"⟩
abbrev b_Mo_prints : ByteArray := prog_9_method_52_code
def y_Mo_prints : MethodName := ⟨R_Mo, "prints", "()I"⟩
abbrev b_Mo_printed : ByteArray := prog_9_method_53_code
def y_Mo_printed : MethodName := ⟨R_Mo, "printed", "(I)I"⟩
abbrev b_Mo_begun : ByteArray := prog_9_method_54_code
def y_Mo_begun : MethodName := ⟨R_Mo, "begun", "(I)I"⟩
abbrev b_Mo_objects : ByteArray := prog_9_method_55_code
def y_Mo_objects : MethodName := ⟨R_Mo, "objects", "()I"⟩
abbrev b_Mo_kept : ByteArray := prog_9_method_56_code
def y_Mo_kept : MethodName := ⟨R_Mo, "kept", "(I)I"⟩
abbrev qa_cl : List vw_C := [(R_Cw, F_Cw, 6), (R_Pr, F_Pr, 16), (R_Ch, F_Ch, 7), (R_Re, F_Re, 4), (R_Ma, F_Ma, 13), (R_Fr, F_Fr, 3), (R_Mo, F_Mo, 48)]
abbrev qa_ty (cI cJ cF cZ : ClassId) : List (ClassId × FieldType) := [(cI, .int), (cJ, .array .int), (cF, .object "ClosedWorld$Frame"), (cZ, .boolean)]
def qa_nw : List (String × Nat × MethodName × String) := [(R_Cw, 11, y_Pr_init, "ClosedWorld"), (R_Ch, 20, y_Fr_init, "ClosedWorld"), (R_Ma, 37, y_Fr_init, "ClosedWorld"), (R_Pr, 80, y_Cw_within, "ClosedWorld"), (R_Fr, 43, y_Cw_within, "ClosedWorld"), (R_Ch, 67, y_Cw_within, "ClosedWorld"), (R_Pr, 95, y_Cw_has, "ClosedWorld"), (R_Ch, 94, y_Cw_has, "ClosedWorld"), (R_Re, 39, y_Cw_has, "ClosedWorld"), (R_Ma, 83, y_Cw_within, "ClosedWorld")]
end
section
/-! The base: the state of a system of fixed cells is one function of numbers; a world made of it; rows for its instructions and calls; contracts by a pure function that may say none. -/
abbrev qa_St : Type := Nat → Nat → Int32
abbrev qa_Re : Type := Option (Int32 × qa_St)
def qa_up (g : qa_St) (r i : Nat) (v : Int32) : qa_St := fun a => if a = r then upd (g a) i v else g a
def qa_wl (N : Nat) (ad : Nat → Nat) (en : Nat → (Nat → Int32) → va_E) (g : qa_St) : va_W := (List.range N).map fun k => (ad k, en k (g k))
theorem qa_wl_len {N : Nat} {ad : Nat → Nat} {en : Nat → (Nat → Int32) → va_E} {g : qa_St} : (qa_wl N ad en g).length = N := by simp [qa_wl]
theorem qa_wl_get {N : Nat} {ad : Nat → Nat} {en : Nat → (Nat → Int32) → va_E} {g : qa_St} {k : Nat} (h : k < N) : (qa_wl N ad en g)[k]? = some (ad k, en k (g k)) := by
  simp [qa_wl, h]
theorem qa_wl_none {N : Nat} {ad : Nat → Nat} {en : Nat → (Nat → Int32) → va_E} {g : qa_St} {k : Nat} (h : ¬ k < N) : (qa_wl N ad en g)[k]? = none := by
  apply List.getElem?_eq_none
  rw [qa_wl_len]
  omega
theorem qa_up_self {g : qa_St} {r i : Nat} {v : Int32} : qa_up g r i v r = upd (g r) i v := by simp [qa_up]
theorem qa_up_ne {g : qa_St} {r i k : Nat} {v : Int32} (h : k ≠ r) : qa_up g r i v k = g k := by simp [qa_up, h]
theorem qa_wl_set {N : Nat} {ad : Nat → Nat} {en : Nat → (Nat → Int32) → va_E} {g : qa_St} {r i : Nat} {v : Int32} {x : va_E} (he : en r (upd (g r) i v) = x) : (qa_wl N ad en g).set r (ad r, x) = qa_wl N ad en (qa_up g r i v) := by
  subst he
  apply List.ext_getElem?
  intro k
  by_cases hk : k = r
  · subst hk
    by_cases h : k < N
    · rw [List.getElem?_set_self (by rw [qa_wl_len]; exact h), qa_wl_get h, qa_up_self]
    · rw [qa_wl_none h, List.getElem?_eq_none]
      rw [List.length_set, qa_wl_len]
      omega
  · rw [List.getElem?_set_ne (Ne.symm hk)]
    by_cases h : k < N
    · rw [qa_wl_get h, qa_wl_get h, qa_up_ne hk]
    · rw [qa_wl_none h, qa_wl_none h]
/-- the words that all methods share: those of the tables that last -/
def qa_G : List Cond := lw_tbl.filter goodWord
theorem qa_in {w : Cond} (h : w ∈ lw_tbl) (hg : goodWord w = true) : w ∈ qa_G := List.mem_filter.mpr ⟨h, hg⟩
theorem qa_ini {w : Cond} (i : Nat) (h : tables_1[i]? = some w) (hg : goodWord w = true) : w ∈ qa_G := qa_in (List.mem_append_right _ (List.mem_of_getElem? h)) hg
theorem qa_ins {w : Cond} (i : Nat) (h : (k2_sels lw_privs)[i]? = some w) (hg : goodWord w = true) : w ∈ qa_G := qa_in (List.mem_append_left _ (List.mem_of_getElem? h)) hg
theorem qa_good {c0 c1 : Cond} (h : c1 ∈ qa_G) : GoodIn (c0 :: qa_G) (c1 :: qa_G) := by
  intro w hw
  have hw1 : w ∈ qa_G := by
    rcases List.mem_cons.mp hw with rfl | h2
    · exact h
    · exact h2
  exact ⟨List.mem_cons_of_mem _ hw1, good_of_word (List.mem_filter.mp hw1).2⟩
theorem qa_goodA {c0 c1 : Cond} {xs : List Cond} (hx : ∀ w ∈ xs, w ∈ qa_G) (h : c1 ∈ qa_G) : GoodIn (c0 :: qa_G) (xs ++ (c1 :: qa_G)) := by
  intro w hw
  rcases List.mem_append.mp hw with h1 | h1
  · exact ⟨List.mem_cons_of_mem _ (hx w h1), good_of_word (List.mem_filter.mp (hx w h1)).2⟩
  · exact qa_good h w h1
abbrev qa_ws (y : MethodName) (b : ByteArray) (n : Nat) (r : Option FieldType) : List Cond := Cond.code y b n r :: qa_G
/-- what a walk carries: the cells, that they are apart, that nothing else has changed -/
def qa_O (D : va_G) (N : Nat) (ad : Nat → Nat) (en : Nat → (Nat → Int32) → va_E) (A : Nat → Prop) (H0 : Heap) (g : qa_St) (H : Heap) (locs : List Loc) : Prop :=
  va_P D qa_cl (qa_wl N ad en g) H ∧ va_D A (qa_wl N ad en g) ∧ va_S A H0 H locs
def qa_A (N : Nat) (ad : Nat → Nat) (sz : Nat) : Nat → Prop := fun q => (∃ k, k < N ∧ q = ad k) ∨ sz ≤ q
abbrev qa_nn (q : String × Nat × MethodName × String) : Cond := .methodLinkNest q.1 q.2.1 q.2.2.1 q.2.2.2
def qa_N (U : State) : Prop := ∀ q ∈ qa_nw, va_Nw (qa_nn q) U
theorem qa_N.moved {s U : State} (h : qa_N s) (hW : s.WarmedH U.vm) : qa_N U := fun q hq => va_Nw.warmM hW (h q hq)
theorem qa_N.same {u U : State} (h : qa_N u) (e : u.vm = U.vm) : qa_N U := fun q hq => va_Nw.same rfl e (h q hq)
def qa_Pre (D : va_G) (tys : List (ClassId × FieldType)) (N : Nat) (ad : Nat → Nat) (en : Nat → (Nat → Int32) → va_E) (g : qa_St) (sz : Nat) : State → Prop :=
  fun U => U.heap.size = sz ∧ va_P D qa_cl (qa_wl N ad en g) U.heap ∧ va_K D qa_cl tys U ∧ va_D (fun _ => True) (qa_wl N ad en g) ∧ qa_N U
abbrev qa_Q (D : va_G) (N : Nat) (ad : Nat → Nat) (en : Nat → (Nat → Int32) → va_E) : qa_St → State → Prop := fun u t => va_P D qa_cl (qa_wl N ad en u) t.heap
/-- a contract with an int for an answer: where the pure function f says some, that is the answer, and the state behind it -/
def qa_Mi (l : Launch) (y : MethodName) (ws : List Cond) (rm : Room) (D : va_G) (tys : List (ClassId × FieldType)) (N : Nat) (ad : Nat → Nat) (en : Nat → (Nat → Int32) → va_E) (av : List Value) (g : qa_St) (f : qa_Re) : Prop :=
  ∀ (T : Int32 × qa_St) (sz : Nat), f = some T → Met l y ws rm (va_Pc av (qa_Pre D tys N ad en g sz)) (va_Qi (fun v u => (v, u) = T) (qa_Q D N ad en) (qa_A N ad sz)) 0 0 (qa_A N ad sz)
def qa_Mv (l : Launch) (y : MethodName) (ws : List Cond) (rm : Room) (D : va_G) (tys : List (ClassId × FieldType)) (N : Nat) (ad : Nat → Nat) (en : Nat → (Nat → Int32) → va_E) (av : List Value) (g : qa_St) (f : qa_Re) : Prop :=
  ∀ (T : Int32 × qa_St) (sz : Nat), f = some T → Met l y ws rm (va_Pc av (qa_Pre D tys N ad en g sz)) (va_Qv (fun u => u = T.2) (qa_Q D N ad en) (qa_A N ad sz)) 0 0 (qa_A N ad sz)
theorem qa_D_any {A : Nat → Prop} {N : Nat} {ad : Nat → Nat} {en : Nat → (Nat → Int32) → va_E} {g u : qa_St} (h : va_D A (qa_wl N ad en g)) : va_D A (qa_wl N ad en u) := by
  have key : ∀ (k : Nat) (q : Nat × va_E), (qa_wl N ad en u)[k]? = some q → ∃ q0, (qa_wl N ad en g)[k]? = some q0 ∧ q0.1 = q.1 := by
    intro k q hk
    by_cases hN : k < N
    · rw [qa_wl_get hN] at hk
      cases hk
      exact ⟨_, qa_wl_get hN, rfl⟩
    · rw [qa_wl_none hN] at hk
      cases hk
  refine ⟨fun i j x y hi hj hxy => ?_, fun k q hk => ?_⟩
  · obtain ⟨x0, h1, h2⟩ := key i x hi
    obtain ⟨y0, h3, h4⟩ := key j y hj
    exact h.1 i j x0 y0 h1 h3 (h2.trans (hxy.trans h4.symm))
  · obtain ⟨q0, h1, h2⟩ := key k q hk
    rw [← h2]
    exact h.2 k q0 h1
theorem qa_D_A {N sz : Nat} {ad : Nat → Nat} {en : Nat → (Nat → Int32) → va_E} {g : qa_St} {A : Nat → Prop} (h : va_D A (qa_wl N ad en g)) : va_D (qa_A N ad sz) (qa_wl N ad en g) := by
  refine ⟨h.1, fun k q hk => ?_⟩
  by_cases hN : k < N
  · rw [qa_wl_get hN] at hk
    cases hk
    exact Or.inl ⟨k, hN, rfl⟩
  · rw [qa_wl_none hN] at hk
    cases hk
theorem qa_A_up {N a b : Nat} {ad : Nat → Nat} (h : a ≤ b) : ∀ q, qa_A N ad b q → qa_A N ad a q := fun q hq => by
  rcases hq with h1 | h1
  · exact Or.inl h1
  · exact Or.inr (Nat.le_trans h h1)
/-! steps of the pure function -/
theorem qa_t {α : Type} {P : Prop} [Decidable P] {a b c : α} (hT : (if P then a else b) = c) (h : P) : a = c := by
  rw [if_pos h] at hT
  exact hT
theorem qa_f {α : Type} {P : Prop} [Decidable P] {a b c : α} (hT : (if P then a else b) = c) (h : ¬ P) : b = c := by
  rw [if_neg h] at hT
  exact hT
theorem qa_c {α : Type} {P : Prop} [Decidable P] {a : Option α} {c : α} (hT : (if P then none else a) = some c) : ¬ P ∧ a = some c := by
  by_cases h : P
  · rw [if_pos h] at hT
    cases hT
  · rw [if_neg h] at hT
    exact ⟨h, hT⟩
theorem qa_k {α : Type} {P : Prop} [Decidable P] {a : Option α} {c : α} (hT : (if P then a else none) = some c) : P ∧ a = some c := by
  by_cases h : P
  · rw [if_pos h] at hT
    exact ⟨h, hT⟩
  · rw [if_neg h] at hT
    cases hT
theorem qa_b {α β : Type} {o : Option α} {f : α → Option β} {t : β} (h : o.bind f = some t) : ∃ a, o = some a ∧ f a = some t := Option.bind_eq_some_iff.mp h
theorem qa_ne {x k : Int32} {n : Int} (h : ¬ x = k) (hk : k.toInt = n) : x.toInt ≠ n := fun e => h (Int32.toInt_inj.mp (e.trans hk.symm))
theorem qa_lt {i : Int32} {n : Nat} (h : ¬ (i < 0 ∨ n ≤ i.toNatClampNeg)) : i.toNatClampNeg < n := Nat.not_le.mp fun q => h (Or.inr q)
theorem qa_rowlt {i : Int32} {n b N : Nat} (h : ¬ (i < 0 ∨ n ≤ i.toNatClampNeg)) (hb : b + n ≤ N) : b + i.toNatClampNeg < N := Nat.lt_of_lt_of_le (Nat.add_lt_add_left (qa_lt h) b) hb
theorem qa_nz {x : Int32} (h : x = 0 ∨ x = 1) : narrow .boolean (.int x) = .int x := by rcases h with rfl | rfl <;> rfl
theorem qa_vz {x : Int32} (h : x = 0 ∨ x = 1) : vp_nar .boolean x = x := by rcases h with rfl | rfl <;> rfl
def qa_ushr (x y : Int32) : Int32 := (x.toUInt32 >>> (y.toUInt32 &&& Int32.toUInt32 31)).toInt32
theorem qa_o1 (x : Int32) : x + Int32.ofInt 1 = x + 1 := rfl
theorem qa_om (x : Int32) : x + Int32.ofInt (-1) = x + -1 := rfl
section QA
variable {p : Program} {l : Launch} {e : Env} {R : Room} {s : State} {m : MethodId} {args : Array Value} {below : List Frame} {meth : Method} {c : Code} {H : Heap} {locs : List Loc} {Q : State → Prop}
variable {cc : ByteArray} {pc nL N : Nat} {ls : Array Slot} {rest : List Value} {D : va_G} {A : Nat → Prop} {tys : List (ClassId × FieldType)} {H0 : Heap} {ad : Nat → Nat} {en : Nat → (Nat → Int32) → va_E} {g : qa_St} {own : String} {Ts : List Cond} {c0 : Cond}
theorem qa_get (S : CallFix p m c cc nL s args (c0 :: qa_G) own) (hK : va_K D qa_cl tys s) (hO : qa_O D N ad en A H0 g H locs) {ref C : String} {F : u_T} {n ci index : Nat} (hin : ∀ w ∈ u_ws C F n, w ∈ qa_G) (r : Nat) (hr : r < N) {fs : List Value} (he : en r (g r) = .inr (ci, fs)) (hc : qa_cl[ci]? = some (C, F, n)) (k : Nat) (hk : k < n) (hlink : Cond.fieldLink own index ref (F k).2.1 (F k).2.2.1 ∈ qa_G) (href : ref = (F k).1) {v : Value} (hv : fs[k]? = some v) (hd : decode cc pc = .ok (.getfield index, 3))
    (kk : W p l e R s m args below meth c H locs 0 0 Q (F0 m (pc + 3) ls (v :: rest))) : W p l e R s m args below meth c H locs 0 0 Q (F0 m pc ls (.ref (ad r) :: rest)) :=
  va_get S.1 S.2.1 S.2.2.2.2 (fun w h => List.mem_cons_of_mem _ (hin w h)) S.2.2.2.1 hK hO.1 r (by rw [qa_wl_get hr, he]) hc k hk (S.2.2.2.2 _ (List.mem_cons_of_mem _ hlink)) (fun x h => by rw [href]; exact h) hv hd kk
theorem qa_put (S : CallFix p m c cc nL s args (c0 :: qa_G) own) (hK : va_K D qa_cl tys s) (hO : qa_O D N ad en A H0 g H locs) {ref C : String} {F : u_T} {n ci index : Nat} (hin : ∀ w ∈ u_ws C F n, w ∈ qa_G) (ty0 : Nat → FieldType) (hty : ∀ k, k < n → parseFieldDescriptor (F k).2.2.1 = some (ty0 k)) (hnm : ∀ a, a < n → ∀ b, b < n → a ≠ b → (F a).2.1 ≠ (F b).2.1) (r : Nat) (hr : r < N) {fs : List Value} (he : en r (g r) = .inr (ci, fs)) (hc : qa_cl[ci]? = some (C, F, n)) (k : Nat) (hk : k < n) (hlink : Cond.fieldLink own index ref (F k).2.1 (F k).2.2.1 ∈ qa_G) (href : ref = (F k).1) (hfin : (F k).2.2.2 = false) {ty : FieldType} {x : Int32} (hpd : parseFieldDescriptor (F k).2.2.1 = some ty) (hn : narrow ty (.int x) = .int x) (hfit : fits ty (.int x) = true) (hl : k < fs.length) (he2 : en r (upd (g r) k x) = .inr (ci, fs.set k (.int x))) (hd : decode cc pc = .ok (.putfield index, 3))
    (kk : ∀ (H : Heap) (locs : List Loc), qa_O D N ad en A H0 (qa_up g r k x) H locs → W p l e R s m args below meth c H locs 0 0 Q (F0 m (pc + 3) ls rest)) : W p l e R s m args below meth c H locs 0 0 Q (F0 m pc ls (.int x :: .ref (ad r) :: rest)) :=
  va_put S.1 S.2.1 S.2.2.2.2 (fun w h => List.mem_cons_of_mem _ (hin w h)) ty0 hty hnm S.2.2.2.1 hK hO.1 hO.2.1 hO.2.2 r (by rw [qa_wl_get hr, he]) hc k hk (S.2.2.2.2 _ (List.mem_cons_of_mem _ hlink)) (fun x h => by rw [href]; exact h) hfin hpd hn hfit hl hd (fun H1 locs1 hP hD hS => kk H1 locs1 (by rw [qa_wl_set he2] at hP hD; exact ⟨hP, hD, hS⟩))
theorem qa_iald (S : CallFix p m c cc nL s args Ts own) (hK : va_K D qa_cl tys s) (hO : qa_O D N ad en A H0 g H locs) (r : Nat) (hr : r < N) (t0 : Nat) {cA : ClassId} {n : Nat} (he : ∀ w, en r w = .inl (cA, n, .inl w)) (ht : tys[t0]? = some (cA, .int)) {i : Int32} (hi : ¬ (i < 0 ∨ n ≤ i.toNatClampNeg)) (hd : decode cc pc = .ok (.iaload, 1))
    (kk : W p l e R s m args below meth c H locs 0 0 Q (F0 m (pc + 1) ls (.int (g r i.toNatClampNeg) :: rest))) : W p l e R s m args below meth c H locs 0 0 Q (F0 m pc ls (.int i :: .ref (ad r) :: rest)) :=
  va_iald S.1 S.2.1 hK hO.1 r t0 (by rw [qa_wl_get hr, he]) ht hi hd kk
theorem qa_zald (S : CallFix p m c cc nL s args Ts own) (hK : va_K D qa_cl tys s) (hO : qa_O D N ad en A H0 g H locs) (r : Nat) (hr : r < N) (t0 : Nat) {cA : ClassId} {n : Nat} (he : ∀ w, en r w = .inl (cA, n, .inl w)) (ht : tys[t0]? = some (cA, .boolean)) {i : Int32} (hi : ¬ (i < 0 ∨ n ≤ i.toNatClampNeg)) (hd : decode cc pc = .ok (.baload, 1))
    (kk : W p l e R s m args below meth c H locs 0 0 Q (F0 m (pc + 1) ls (.int (g r i.toNatClampNeg) :: rest))) : W p l e R s m args below meth c H locs 0 0 Q (F0 m pc ls (.int i :: .ref (ad r) :: rest)) :=
  va_zald S.1 S.2.1 hK hO.1 r t0 (by rw [qa_wl_get hr, he]) ht hi hd kk
theorem qa_iast (S : CallFix p m c cc nL s args Ts own) (hK : va_K D qa_cl tys s) (hO : qa_O D N ad en A H0 g H locs) (r : Nat) (hr : r < N) (t0 : Nat) {cA : ClassId} {n : Nat} (he : ∀ w, en r w = .inl (cA, n, .inl w)) (ht : tys[t0]? = some (cA, .int)) {i x : Int32} (hi : ¬ (i < 0 ∨ n ≤ i.toNatClampNeg)) (hd : decode cc pc = .ok (.iastore, 1))
    (kk : ∀ (H : Heap) (locs : List Loc), qa_O D N ad en A H0 (qa_up g r i.toNatClampNeg x) H locs → W p l e R s m args below meth c H locs 0 0 Q (F0 m (pc + 1) ls rest)) : W p l e R s m args below meth c H locs 0 0 Q (F0 m pc ls (.int x :: .int i :: .ref (ad r) :: rest)) :=
  va_iast S.1 S.2.1 hK hO.1 hO.2.1 hO.2.2 r t0 (by rw [qa_wl_get hr, he]) ht hi hd (fun H1 locs1 hP hD hS => kk H1 locs1 (by rw [qa_wl_set (he _)] at hP hD; exact ⟨hP, hD, hS⟩))
theorem qa_zast (S : CallFix p m c cc nL s args Ts own) (hK : va_K D qa_cl tys s) (hO : qa_O D N ad en A H0 g H locs) (r : Nat) (hr : r < N) (t0 : Nat) {cA : ClassId} {n : Nat} (he : ∀ w, en r w = .inl (cA, n, .inl w)) (ht : tys[t0]? = some (cA, .boolean)) {i x : Int32} (hi : ¬ (i < 0 ∨ n ≤ i.toNatClampNeg)) (hx : vp_nar .boolean x = x) (hd : decode cc pc = .ok (.bastore, 1))
    (kk : ∀ (H : Heap) (locs : List Loc), qa_O D N ad en A H0 (qa_up g r i.toNatClampNeg x) H locs → W p l e R s m args below meth c H locs 0 0 Q (F0 m (pc + 1) ls rest)) : W p l e R s m args below meth c H locs 0 0 Q (F0 m pc ls (.int x :: .int i :: .ref (ad r) :: rest)) :=
  va_zast S.1 S.2.1 hK hO.1 hO.2.1 hO.2.2 r t0 (by rw [qa_wl_get hr, he]) ht hi hd (fun H1 locs1 hP hD hS => kk H1 locs1 (by rw [hx, qa_wl_set (he _)] at hP hD; exact ⟨hP, hD, hS⟩))
/-- a row of an array of arrays, or of objects -/
theorem qa_aald (S : CallFix p m c cc nL s args Ts own) (hK : va_K D qa_cl tys s) (hO : qa_O D N ad en A H0 g H locs) (r : Nat) (hr : r < N) (t0 : Nat) {cA : ClassId} {n : Nat} {f : Nat → Option Nat} {ty : FieldType} (he : en r (g r) = .inl (cA, n, .inr (.inr (.inr (.inr f))))) (ht : tys[t0]? = some (cA, ty)) (hty : ty.isReference = true) {i : Int32} (hi : ¬ (i < 0 ∨ n ≤ i.toNatClampNeg)) {v : Nat} (hv : f i.toNatClampNeg = some v) (hd : decode cc pc = .ok (.aaload, 1))
    (kk : W p l e R s m args below meth c H locs 0 0 Q (F0 m (pc + 1) ls (.ref v :: rest))) : W p l e R s m args below meth c H locs 0 0 Q (F0 m pc ls (.int i :: .ref (ad r) :: rest)) := by
  have hlt : i.toNatClampNeg < n := Nat.not_le.mp fun q => hi (Or.inr q)
  have ha : (qa_wl N ad en g)[r]? = some (ad r, .inl (cA, n, .inr (.inr (.inr (.inr f))))) := by rw [qa_wl_get hr, he]
  refine W.aald (v := .ref v) (ty := ty) S.1 S.2.1 (hO.1 r _ ha) ((hK.2 t0 _ ht).1 n (fun j => va_rf (f j))) hty (fun q => by cases q) (by show ¬ (i < 0 ∨ (arrV _ _ _).slots.size ≤ _); rw [arrV_size]; exact hi) (by show (arrV _ _ _).slots[_]? = _; rw [arrV_read _ _ hlt, hv]; rfl) rfl rfl hd kk
theorem qa_alen (S : CallFix p m c cc nL s args Ts own) (hK : va_K D qa_cl tys s) (hO : qa_O D N ad en A H0 g H locs) (r : Nat) (hr : r < N) (t0 : Nat) {cA : ClassId} {n : Nat} {ty : FieldType} (he : ∀ w, en r w = .inl (cA, n, .inl w)) (ht : tys[t0]? = some (cA, ty)) {v : Int32} (hv : Int32.ofNat n = v) (hd : decode cc pc = .ok (.arraylength, 1))
    (kk : W p l e R s m args below meth c H locs 0 0 Q (F0 m (pc + 1) ls (.int v :: rest))) : W p l e R s m args below meth c H locs 0 0 Q (F0 m pc ls (.ref (ad r) :: rest)) :=
  va_alen S.1 S.2.1 hK hO.1 r t0 (by rw [qa_wl_get hr, he]) ht hv hd kk
theorem qa_blind {av : List Value} {D : va_G} {tys : List (ClassId × FieldType)} {sz : Nat} : FrameBlind (va_Pc av (qa_Pre D tys N ad en g sz)) := fun a U g1 mk q => by
  obtain ⟨q0, q1, qP, qK, qD, qN⟩ := q
  exact ⟨q0, q1, qP, va_K.moved (u := U) (U := U.calling g1 mk a) (Vm.Alike.refl U.vm) qK, qD, qN.same rfl⟩
theorem qa_pre (hK : va_K D qa_cl tys s) (hN : qa_N s) (hO : qa_O D N ad en A H0 g H locs) {U : State} (hU : U.heap = H) (hW : s.WarmedH U.vm) : qa_Pre D tys N ad en g H.size U :=
  ⟨by rw [hU], by rw [hU]; exact hO.1, va_K.moved hW.alike hK, hO.2.1.weaken (fun _ _ _ _ => trivial), hN.moved hW⟩
theorem qa_calli (hA : A = qa_A N ad H0.size) (hO : qa_O D N ad en A H0 g H locs) {T : Int32 × qa_St} {st0 : List Value} {a : Array Value} (hr : va_Run p l e R s m args below meth c H locs 0 0 0 0 (F0 m pc ls st0) rest (va_Qi (fun v u => (v, u) = T) (qa_Q D N ad en) (qa_A N ad H.size) a) (qa_A N ad H.size))
    (kk : ∀ (H : Heap) (locs : List Loc), qa_O D N ad en A H0 T.2 H locs → W p l e R s m args below meth c H locs 0 0 Q (F0 m (pc + 3) ls (.int T.1 :: rest))) : W p l e R s m args below meth c H locs 0 0 Q (F0 m pc ls st0) := by
  have hup : ∀ q, qa_A N ad H.size q → A q := by
    rw [hA]
    exact qa_A_up hO.2.2.1
  refine va_calli hr hO.2.2 (fun q _ h => hup q h) hup (fun r u t H1 locs1 ht _ hp hB _ _ hS => ?_)
  subst hp
  refine kk H1 locs1 ⟨?_, qa_D_any hO.2.1, hS⟩
  rw [← ht]
  exact hB
theorem qa_callv (hA : A = qa_A N ad H0.size) (hO : qa_O D N ad en A H0 g H locs) {T : Int32 × qa_St} {st0 : List Value} {a : Array Value} (hr : va_Run p l e R s m args below meth c H locs 0 0 0 0 (F0 m pc ls st0) rest (va_Qv (fun u => u = T.2) (qa_Q D N ad en) (qa_A N ad H.size) a) (qa_A N ad H.size))
    (kk : ∀ (H : Heap) (locs : List Loc), qa_O D N ad en A H0 T.2 H locs → W p l e R s m args below meth c H locs 0 0 Q (F0 m (pc + 3) ls rest)) : W p l e R s m args below meth c H locs 0 0 Q (F0 m pc ls st0) := by
  have hup : ∀ q, qa_A N ad H.size q → A q := by
    rw [hA]
    exact qa_A_up hO.2.2.1
  refine va_callv hr hO.2.2 (fun q _ h => hup q h) hup (fun u t H1 locs1 ht _ hp hB _ _ hS => ?_)
  subst hp
  refine kk H1 locs1 ⟨?_, qa_D_any hO.2.1, hS⟩
  rw [← ht]
  exact hB
end QA
abbrev qa_rm (f n : Nat) : Room := { frames := f, cells := 0, slots := 0, locals := n }
/-- what the tables say of a method that is called on an object; of one that is called without -/
def qa_yV (y : MethodName) (b : ByteArray) (maxL : Nat) (ret : Option FieldType) (n : Nat) : Prop :=
  (Cond.instanceMethod y ∈ qa_G ∧ Cond.selects y.cls y y ∈ qa_G ∧ Cond.initialized y.cls ∈ qa_G ∧ Cond.code y b maxL ret ∈ qa_G) ∧ (y.cls ≠ "java/lang/invoke/MethodHandle" ∧ y.cls ≠ "java/lang/invoke/VarHandle" ∧ (parseMethodDescriptor y.desc).map (fun d => d.parameters.length) = some n)
def qa_yS (y : MethodName) (b : ByteArray) (maxL : Nat) (ret : Option FieldType) (n : Nat) : Prop :=
  (Cond.static y ∈ qa_G ∧ Cond.initialized y.cls ∈ qa_G ∧ Cond.code y b maxL ret ∈ qa_G) ∧ (y.cls ≠ "java/lang/invoke/MethodHandle" ∧ y.cls ≠ "java/lang/invoke/VarHandle" ∧ (parseMethodDescriptor y.desc).map (fun d => d.parameters.length) = some n)
section QB
variable {p : Program} {l : Launch} {e : Env} {s : State} {m : MethodId} {args : Array Value} {below : List Frame} {meth : Method} {c : Code} {H : Heap} {locs : List Loc} {Q : State → Prop}
variable {cc : ByteArray} {pc nL N : Nat} {ls : Array Slot} {D : va_G} {A : Nat → Prop} {tys : List (ClassId × FieldType)} {ad : Nat → Nat} {en : Nat → (Nat → Int32) → va_E} {g : qa_St} {own : String} {c0 : Cond}
variable {y : MethodName} {bytes : ByteArray} {maxL n index F L F' L' : Nat} {ret : Option FieldType} {f : qa_Re} {T : Int32 × qa_St}
theorem qa_cwV (S : CallFix p m c cc nL s args (c0 :: qa_G) own) (hy : qa_yV y bytes maxL ret n) (hl : Cond.methodLink own index y ∈ qa_G) (hR : F + 1 ≤ F' ∧ 8 + (maxL + 11) + L ≤ L') : CallW (qa_rm F' L') s args own y.cls index y bytes maxL ret (qa_ws y bytes maxL ret) (qa_rm F L) 0 0 n := by
  obtain ⟨⟨h1, h2, h3, h4⟩, h5⟩ := hy
  refine cwV n S.2.2.2.2 ?_ rfl rfl rfl ⟨rfl, h5⟩ hR
  unfold wsV
  exact qa_goodA (List.forall_mem_cons.mpr ⟨hl, List.forall_mem_cons.mpr ⟨h1, List.forall_mem_cons.mpr ⟨h2, List.forall_mem_cons.mpr ⟨h3, fun _ h => by cases h⟩⟩⟩⟩) h4
theorem qa_cwS (S : CallFix p m c cc nL s args (c0 :: qa_G) own) (hy : qa_yS y bytes maxL ret n) (hl : Cond.methodLink own index y ∈ qa_G) (hR : F + 1 ≤ F' ∧ 8 + (maxL + 11) + L ≤ L') : CallB (qa_rm F' L') s args own index y bytes maxL ret (qa_ws y bytes maxL ret) (qa_rm F L) 0 0 n ∧ (Cond.static y).before args s = true := by
  obtain ⟨⟨h1, h3, h4⟩, h5⟩ := hy
  exact ⟨callB_of n S.2.2.2.2 (qa_good h4) rfl rfl rfl (S.2.2.2.2 _ (List.mem_cons_of_mem _ h3)) (S.2.2.2.2 _ (List.mem_cons_of_mem _ hl)) h5 hR, S.2.2.2.2 _ (List.mem_cons_of_mem _ h1)⟩
theorem qa_cwSN {host : String} (S : CallFix p m c cc nL s args (c0 :: qa_G) own) (hN : qa_N s) (hy : qa_yS y bytes maxL ret n) (hl : (own, index, y, host) ∈ qa_nw) (hR : F + 1 ≤ F' ∧ 8 + (maxL + 11) + L ≤ L') : va_CN (qa_rm F' L') s args own index y host bytes maxL ret (qa_ws y bytes maxL ret) (qa_rm F L) 0 0 n ∧ (Cond.static y).before args s = true ∧ True := by
  obtain ⟨⟨h1, h3, h4⟩, h5⟩ := hy
  exact ⟨va_cnB n S.2.2.2.2 (qa_good h4) rfl rfl rfl (hN _ hl) (S.2.2.2.2 _ (List.mem_cons_of_mem _ h3)) h5 hR, S.2.2.2.2 _ (List.mem_cons_of_mem _ h1), trivial⟩
theorem qa_Vi (S : CallFix p m c cc nL s args (c0 :: qa_G) own) (hK : va_K D qa_cl tys s) (hN : qa_N s) (hA : A = qa_A N ad s.heap.size) (hO : qa_O D N ad en A s.heap g H locs) {As rest st0 : List Value} {r : Nat} (hM : qa_Mi l y (qa_ws y bytes maxL ret) (qa_rm F L) D tys N ad en (.ref (ad r) :: As) g f) (hf : f = some T) (hy : qa_yV y bytes maxL ret n) (hl : Cond.methodLink own index y ∈ qa_G) (hR : F + 1 ≤ F' ∧ 8 + (maxL + 11) + L ≤ L') (hr : r < N) {ci : Nat} {fs : List Value} {q : vw_C} (he : en r (g r) = .inr (ci, fs)) (hc : qa_cl[ci]? = some q) (hq : q.1 = y.cls) (hn : As.length = n) (hls : ls.size = nL) (hst : st0 = As.reverse ++ .ref (ad r) :: rest) (hW : (rest.map fun v => v.category).sum ≤ 8) (hd : decode cc pc = .ok (.invokevirtual index, 3))
    (kk : ∀ (H : Heap) (locs : List Loc), qa_O D N ad en A s.heap T.2 H locs → W p l e (qa_rm F' L') s m args below meth c H locs 0 0 Q (F0 m (pc + 3) ls (.int T.1 :: rest))) : W p l e (qa_rm F' L') s m args below meth c H locs 0 0 Q (F0 m pc ls st0) :=
  qa_calli hA hO (va_runV (As := As) (rest := rest) (C := y.cls) S (hM T H.size hf) (qa_cwV S hy hl hR) ⟨qa_blind, by rw [← hq]; exact va_recv hK hO.1 hc (by rw [qa_wl_get hr, he]), fun U hU hW => ⟨rfl, qa_pre hK hN hO hU hW⟩⟩ rfl hn hls hst (lv_room hW) hd ⟨Nat.zero_le _, Nat.zero_le _⟩) kk
theorem qa_Vv (S : CallFix p m c cc nL s args (c0 :: qa_G) own) (hK : va_K D qa_cl tys s) (hN : qa_N s) (hA : A = qa_A N ad s.heap.size) (hO : qa_O D N ad en A s.heap g H locs) {As rest st0 : List Value} {r : Nat} (hM : qa_Mv l y (qa_ws y bytes maxL ret) (qa_rm F L) D tys N ad en (.ref (ad r) :: As) g f) (hf : f = some T) (hy : qa_yV y bytes maxL ret n) (hl : Cond.methodLink own index y ∈ qa_G) (hR : F + 1 ≤ F' ∧ 8 + (maxL + 11) + L ≤ L') (hr : r < N) {ci : Nat} {fs : List Value} {q : vw_C} (he : en r (g r) = .inr (ci, fs)) (hc : qa_cl[ci]? = some q) (hq : q.1 = y.cls) (hn : As.length = n) (hls : ls.size = nL) (hst : st0 = As.reverse ++ .ref (ad r) :: rest) (hW : (rest.map fun v => v.category).sum ≤ 8) (hd : decode cc pc = .ok (.invokevirtual index, 3))
    (kk : ∀ (H : Heap) (locs : List Loc), qa_O D N ad en A s.heap T.2 H locs → W p l e (qa_rm F' L') s m args below meth c H locs 0 0 Q (F0 m (pc + 3) ls rest)) : W p l e (qa_rm F' L') s m args below meth c H locs 0 0 Q (F0 m pc ls st0) :=
  qa_callv hA hO (va_runV (As := As) (rest := rest) (C := y.cls) S (hM T H.size hf) (qa_cwV S hy hl hR) ⟨qa_blind, by rw [← hq]; exact va_recv hK hO.1 hc (by rw [qa_wl_get hr, he]), fun U hU hW => ⟨rfl, qa_pre hK hN hO hU hW⟩⟩ rfl hn hls hst (lv_room hW) hd ⟨Nat.zero_le _, Nat.zero_le _⟩) kk
theorem qa_Si (S : CallFix p m c cc nL s args (c0 :: qa_G) own) (hK : va_K D qa_cl tys s) (hN : qa_N s) (hA : A = qa_A N ad s.heap.size) (hO : qa_O D N ad en A s.heap g H locs) {As rest st0 : List Value} (hM : qa_Mi l y (qa_ws y bytes maxL ret) (qa_rm F L) D tys N ad en As g f) (hf : f = some T) (hy : qa_yS y bytes maxL ret n) (hl : Cond.methodLink own index y ∈ qa_G) (hR : F + 1 ≤ F' ∧ 8 + (maxL + 11) + L ≤ L') (hn : As.length = n) (hls : ls.size = nL) (hst : st0 = As.reverse ++ rest) (hW : (rest.map fun v => v.category).sum ≤ 8) (hd : decode cc pc = .ok (.invokestatic index, 3))
    (kk : ∀ (H : Heap) (locs : List Loc), qa_O D N ad en A s.heap T.2 H locs → W p l e (qa_rm F' L') s m args below meth c H locs 0 0 Q (F0 m (pc + 3) ls (.int T.1 :: rest))) : W p l e (qa_rm F' L') s m args below meth c H locs 0 0 Q (F0 m pc ls st0) :=
  qa_calli hA hO (va_runS (As := As) (rest := rest) S (hM T H.size hf) (qa_cwS S hy hl hR) ⟨qa_blind, fun U hU hW => ⟨rfl, qa_pre hK hN hO hU hW⟩⟩ rfl hn hls hst (lv_room hW) hd ⟨Nat.zero_le _, Nat.zero_le _⟩) kk
theorem qa_Sv (S : CallFix p m c cc nL s args (c0 :: qa_G) own) (hK : va_K D qa_cl tys s) (hN : qa_N s) (hA : A = qa_A N ad s.heap.size) (hO : qa_O D N ad en A s.heap g H locs) {As rest st0 : List Value} (hM : qa_Mv l y (qa_ws y bytes maxL ret) (qa_rm F L) D tys N ad en As g f) (hf : f = some T) (hy : qa_yS y bytes maxL ret n) (hl : Cond.methodLink own index y ∈ qa_G) (hR : F + 1 ≤ F' ∧ 8 + (maxL + 11) + L ≤ L') (hn : As.length = n) (hls : ls.size = nL) (hst : st0 = As.reverse ++ rest) (hW : (rest.map fun v => v.category).sum ≤ 8) (hd : decode cc pc = .ok (.invokestatic index, 3))
    (kk : ∀ (H : Heap) (locs : List Loc), qa_O D N ad en A s.heap T.2 H locs → W p l e (qa_rm F' L') s m args below meth c H locs 0 0 Q (F0 m (pc + 3) ls rest)) : W p l e (qa_rm F' L') s m args below meth c H locs 0 0 Q (F0 m pc ls st0) :=
  qa_callv hA hO (va_runS (As := As) (rest := rest) S (hM T H.size hf) (qa_cwS S hy hl hR) ⟨qa_blind, fun U hU hW => ⟨rfl, qa_pre hK hN hO hU hW⟩⟩ rfl hn hls hst (lv_room hW) hd ⟨Nat.zero_le _, Nat.zero_le _⟩) kk
theorem qa_SNi {host : String} (S : CallFix p m c cc nL s args (c0 :: qa_G) own) (hK : va_K D qa_cl tys s) (hN : qa_N s) (hA : A = qa_A N ad s.heap.size) (hO : qa_O D N ad en A s.heap g H locs) {As rest st0 : List Value} (hM : qa_Mi l y (qa_ws y bytes maxL ret) (qa_rm F L) D tys N ad en As g f) (hf : f = some T) (hy : qa_yS y bytes maxL ret n) (hl : (own, index, y, host) ∈ qa_nw) (hR : F + 1 ≤ F' ∧ 8 + (maxL + 11) + L ≤ L') (hn : As.length = n) (hls : ls.size = nL) (hst : st0 = As.reverse ++ rest) (hW : (rest.map fun v => v.category).sum ≤ 8) (hd : decode cc pc = .ok (.invokestatic index, 3))
    (kk : ∀ (H : Heap) (locs : List Loc), qa_O D N ad en A s.heap T.2 H locs → W p l e (qa_rm F' L') s m args below meth c H locs 0 0 Q (F0 m (pc + 3) ls (.int T.1 :: rest))) : W p l e (qa_rm F' L') s m args below meth c H locs 0 0 Q (F0 m pc ls st0) :=
  qa_calli hA hO (va_runSN (As := As) (rest := rest) S (hM T H.size hf) (qa_cwSN S hN hy hl hR) ⟨qa_blind, fun U hU hW => ⟨rfl, qa_pre hK hN hO hU hW⟩⟩ rfl hn hls hst (lv_room hW) hd ⟨Nat.zero_le _, Nat.zero_le _⟩) kk
end QB
/-! a contract out of a walk -/
section QM
variable {l : Launch} {y : MethodName} {cc : ByteArray} {maxL F L N : Nat} {D : va_G} {tys : List (ClassId × FieldType)} {ad : Nat → Nat} {en : Nat → (Nat → Int32) → va_E} {g : qa_St} {av : List Value} {f : qa_Re}
theorem qa_meti (hy : plainName y.cls = true) (hav : (lg_sl av).length ≤ maxL)
    (body : ∀ (p : Program) (e : Env) (s : State) (m : MethodId) (args : Array Value) (below : List Frame) (meth : Method) (c : Code) (Q : State → Prop) (A : Nat → Prop) (T : Int32 × qa_St), CallFix p m c cc maxL s args (qa_ws y cc maxL (some .int)) y.cls → va_K D qa_cl tys s → qa_N s → A = qa_A N ad s.heap.size → f = some T →
      (∀ {v : Int32} {g : qa_St} {H : Heap} {locs : List Loc} {pc : Nat} {ls : Array Slot}, some (v, g) = some T → qa_O D N ad en A s.heap g H locs → decode cc pc = .ok (.ireturn, 1) → W p l e (qa_rm F L) s m args below meth c H locs 0 0 Q (F0 m pc ls [.int v])) →
      ∀ ls, lv_has ls maxL (lv_args 0 av) → qa_O D N ad en A s.heap g s.heap [] → W p l e (qa_rm F L) s m args below meth c s.heap [] 0 0 Q (F0 m 0 ls [])) :
    qa_Mi l y (qa_ws y cc maxL (some .int)) (qa_rm F L) D tys N ad en av g f := by
  intro T sz hT
  refine Met.ofW (cc := cc) (maxL := maxL) (ret := some .int) hy rfl ?_
  intro p e s m args below meth c s₁ B hml hv
  obtain ⟨rfl, hsz, hP, hK, hD0, hN⟩ := hv
  subst hsz
  have hlocks := B.notSynchronized
  have hl := lv_entry av (n := maxL) hav
  rw [lg_entry_eq]
  refine body p e s m av.toArray below meth c _ (qa_A N ad s.heap.size) T ⟨B.exec, B.bytes, hml, findClass_of_methodNamed B.named, atoms_spec (ws := qa_ws y cc maxL (some .int)) B.pre⟩ hK hN rfl hT ?_ _ hl ⟨hP, qa_D_A hD0, va_S.rf⟩
  intro v g1 H locs pc ls hv hO hd
  exact W.iret (v := v) B.exec B.bytes B.returns (fun t ht hW => ⟨⟨v, g1, rfl, Option.some.inj hv, by show va_P _ _ _ t.heap; rw [ht]; exact hO.1⟩, hO.2.2.F ht⟩) hO.2.2.2.2 hd
theorem qa_metz (hy : plainName y.cls = true) (hav : (lg_sl av).length ≤ maxL)
    (body : ∀ (p : Program) (e : Env) (s : State) (m : MethodId) (args : Array Value) (below : List Frame) (meth : Method) (c : Code) (Q : State → Prop) (A : Nat → Prop) (T : Int32 × qa_St), CallFix p m c cc maxL s args (qa_ws y cc maxL (some .boolean)) y.cls → va_K D qa_cl tys s → qa_N s → A = qa_A N ad s.heap.size → f = some T →
      (∀ {v : Int32} {g : qa_St} {H : Heap} {locs : List Loc} {pc : Nat} {ls : Array Slot}, (v = 0 ∨ v = 1) → some (v, g) = some T → qa_O D N ad en A s.heap g H locs → decode cc pc = .ok (.ireturn, 1) → W p l e (qa_rm F L) s m args below meth c H locs 0 0 Q (F0 m pc ls [.int v])) →
      ∀ ls, lv_has ls maxL (lv_args 0 av) → qa_O D N ad en A s.heap g s.heap [] → W p l e (qa_rm F L) s m args below meth c s.heap [] 0 0 Q (F0 m 0 ls [])) :
    qa_Mi l y (qa_ws y cc maxL (some .boolean)) (qa_rm F L) D tys N ad en av g f := by
  intro T sz hT
  refine Met.ofW (cc := cc) (maxL := maxL) (ret := some .boolean) hy rfl ?_
  intro p e s m args below meth c s₁ B hml hv
  obtain ⟨rfl, hsz, hP, hK, hD0, hN⟩ := hv
  subst hsz
  have hlocks := B.notSynchronized
  have hl := lv_entry av (n := maxL) hav
  rw [lg_entry_eq]
  refine body p e s m av.toArray below meth c _ (qa_A N ad s.heap.size) T ⟨B.exec, B.bytes, hml, findClass_of_methodNamed B.named, atoms_spec (ws := qa_ws y cc maxL (some .boolean)) B.pre⟩ hK hN rfl hT ?_ _ hl ⟨hP, qa_D_A hD0, va_S.rf⟩
  intro v g1 H locs pc ls h01 hv hO hd
  exact W.zret (v := v) (ty := .boolean) B.exec B.bytes B.returns (by rcases h01 with rfl | rfl <;> rfl) (fun t ht hW => ⟨⟨v, g1, rfl, Option.some.inj hv, by show va_P _ _ _ t.heap; rw [ht]; exact hO.1⟩, hO.2.2.F ht⟩) hO.2.2.2.2 hd
theorem qa_metv (hy : plainName y.cls = true) (hav : (lg_sl av).length ≤ maxL)
    (body : ∀ (p : Program) (e : Env) (s : State) (m : MethodId) (args : Array Value) (below : List Frame) (meth : Method) (c : Code) (Q : State → Prop) (A : Nat → Prop) (T : Int32 × qa_St), CallFix p m c cc maxL s args (qa_ws y cc maxL none) y.cls → va_K D qa_cl tys s → qa_N s → A = qa_A N ad s.heap.size → f = some T →
      (∀ {v : Int32} {g : qa_St} {H : Heap} {locs : List Loc} {pc : Nat} {ls : Array Slot}, some (v, g) = some T → qa_O D N ad en A s.heap g H locs → decode cc pc = .ok (.return_, 1) → W p l e (qa_rm F L) s m args below meth c H locs 0 0 Q (F0 m pc ls [])) →
      ∀ ls, lv_has ls maxL (lv_args 0 av) → qa_O D N ad en A s.heap g s.heap [] → W p l e (qa_rm F L) s m args below meth c s.heap [] 0 0 Q (F0 m 0 ls [])) :
    qa_Mv l y (qa_ws y cc maxL none) (qa_rm F L) D tys N ad en av g f := by
  intro T sz hT
  refine Met.ofW (cc := cc) (maxL := maxL) (ret := none) hy rfl ?_
  intro p e s m args below meth c s₁ B hml hv
  obtain ⟨rfl, hsz, hP, hK, hD0, hN⟩ := hv
  subst hsz
  have hlocks := B.notSynchronized
  have hl := lv_entry av (n := maxL) hav
  rw [lg_entry_eq]
  refine body p e s m av.toArray below meth c _ (qa_A N ad s.heap.size) T ⟨B.exec, B.bytes, hml, findClass_of_methodNamed B.named, atoms_spec (ws := qa_ws y cc maxL none) B.pre⟩ hK hN rfl hT ?_ _ hl ⟨hP, qa_D_A hD0, va_S.rf⟩
  intro v g1 H locs pc ls hv hO hd
  exact W.vret B.exec B.bytes B.returns (fun t ht hW => ⟨⟨g1, rfl, congrArg Prod.snd (Option.some.inj hv), by show va_P _ _ _ t.heap; rw [ht]; exact hO.1⟩, hO.2.2.F ht⟩) hO.2.2.2.2 hd
end QM
end
section
theorem hi_Cw : ∀ w ∈ u_ws R_Cw F_Cw 6, w ∈ qa_G := by
  intro w hw
  obtain ⟨k, hk, rfl⟩ := List.mem_map.mp hw
  have hk := List.mem_range.mp hk
  match k, hk with
  | 0, _ => exact qa_ini 194 (by decide +kernel) rfl
  | 1, _ => exact qa_ini 196 (by decide +kernel) rfl
  | 2, _ => exact qa_ini 198 (by decide +kernel) rfl
  | 3, _ => exact qa_ini 200 (by decide +kernel) rfl
  | 4, _ => exact qa_ini 202 (by decide +kernel) rfl
  | 5, _ => exact qa_ini 204 (by decide +kernel) rfl
  | n + 6, h => exact absurd h (by omega)
theorem hi_Pr : ∀ w ∈ u_ws R_Pr F_Pr 16, w ∈ qa_G := by
  intro w hw
  obtain ⟨k, hk, rfl⟩ := List.mem_map.mp hw
  have hk := List.mem_range.mp hk
  match k, hk with
  | 0, _ => exact qa_ini 42 (by decide +kernel) rfl
  | 1, _ => exact qa_ini 44 (by decide +kernel) rfl
  | 2, _ => exact qa_ini 46 (by decide +kernel) rfl
  | 3, _ => exact qa_ini 48 (by decide +kernel) rfl
  | 4, _ => exact qa_ini 50 (by decide +kernel) rfl
  | 5, _ => exact qa_ini 52 (by decide +kernel) rfl
  | 6, _ => exact qa_ini 54 (by decide +kernel) rfl
  | 7, _ => exact qa_ini 56 (by decide +kernel) rfl
  | 8, _ => exact qa_ini 58 (by decide +kernel) rfl
  | 9, _ => exact qa_ini 60 (by decide +kernel) rfl
  | 10, _ => exact qa_ini 62 (by decide +kernel) rfl
  | 11, _ => exact qa_ini 64 (by decide +kernel) rfl
  | 12, _ => exact qa_ini 66 (by decide +kernel) rfl
  | 13, _ => exact qa_ini 68 (by decide +kernel) rfl
  | 14, _ => exact qa_ini 70 (by decide +kernel) rfl
  | 15, _ => exact qa_ini 72 (by decide +kernel) rfl
  | n + 16, h => exact absurd h (by omega)
theorem hi_Ch : ∀ w ∈ u_ws R_Ch F_Ch 7, w ∈ qa_G := by
  intro w hw
  obtain ⟨k, hk, rfl⟩ := List.mem_map.mp hw
  have hk := List.mem_range.mp hk
  match k, hk with
  | 0, _ => exact qa_ini 105 (by decide +kernel) rfl
  | 1, _ => exact qa_ini 107 (by decide +kernel) rfl
  | 2, _ => exact qa_ini 109 (by decide +kernel) rfl
  | 3, _ => exact qa_ini 111 (by decide +kernel) rfl
  | 4, _ => exact qa_ini 113 (by decide +kernel) rfl
  | 5, _ => exact qa_ini 115 (by decide +kernel) rfl
  | 6, _ => exact qa_ini 117 (by decide +kernel) rfl
  | n + 7, h => exact absurd h (by omega)
theorem hi_Re : ∀ w ∈ u_ws R_Re F_Re 4, w ∈ qa_G := by
  intro w hw
  obtain ⟨k, hk, rfl⟩ := List.mem_map.mp hw
  have hk := List.mem_range.mp hk
  match k, hk with
  | 0, _ => exact qa_ini 130 (by decide +kernel) rfl
  | 1, _ => exact qa_ini 132 (by decide +kernel) rfl
  | 2, _ => exact qa_ini 134 (by decide +kernel) rfl
  | 3, _ => exact qa_ini 136 (by decide +kernel) rfl
  | n + 4, h => exact absurd h (by omega)
theorem hi_Ma : ∀ w ∈ u_ws R_Ma F_Ma 13, w ∈ qa_G := by
  intro w hw
  obtain ⟨k, hk, rfl⟩ := List.mem_map.mp hw
  have hk := List.mem_range.mp hk
  match k, hk with
  | 0, _ => exact qa_ini 161 (by decide +kernel) rfl
  | 1, _ => exact qa_ini 163 (by decide +kernel) rfl
  | 2, _ => exact qa_ini 165 (by decide +kernel) rfl
  | 3, _ => exact qa_ini 167 (by decide +kernel) rfl
  | 4, _ => exact qa_ini 169 (by decide +kernel) rfl
  | 5, _ => exact qa_ini 171 (by decide +kernel) rfl
  | 6, _ => exact qa_ini 173 (by decide +kernel) rfl
  | 7, _ => exact qa_ini 175 (by decide +kernel) rfl
  | 8, _ => exact qa_ini 177 (by decide +kernel) rfl
  | 9, _ => exact qa_ini 179 (by decide +kernel) rfl
  | 10, _ => exact qa_ini 181 (by decide +kernel) rfl
  | 11, _ => exact qa_ini 183 (by decide +kernel) rfl
  | 12, _ => exact qa_ini 185 (by decide +kernel) rfl
  | n + 13, h => exact absurd h (by omega)
theorem hi_Fr : ∀ w ∈ u_ws R_Fr F_Fr 3, w ∈ qa_G := by
  intro w hw
  obtain ⟨k, hk, rfl⟩ := List.mem_map.mp hw
  have hk := List.mem_range.mp hk
  match k, hk with
  | 0, _ => exact qa_ini 91 (by decide +kernel) rfl
  | 1, _ => exact qa_ini 93 (by decide +kernel) rfl
  | 2, _ => exact qa_ini 95 (by decide +kernel) rfl
  | n + 3, h => exact absurd h (by omega)
theorem hi_Mo : ∀ w ∈ u_ws R_Mo F_Mo 48, w ∈ qa_G := by
  intro w hw
  obtain ⟨k, hk, rfl⟩ := List.mem_map.mp hw
  have hk := List.mem_range.mp hk
  match k, hk with
  | 0, _ => exact qa_ini 745 (by decide +kernel) rfl
  | 1, _ => exact qa_ini 747 (by decide +kernel) rfl
  | 2, _ => exact qa_ini 749 (by decide +kernel) rfl
  | 3, _ => exact qa_ini 751 (by decide +kernel) rfl
  | 4, _ => exact qa_ini 753 (by decide +kernel) rfl
  | 5, _ => exact qa_ini 755 (by decide +kernel) rfl
  | 6, _ => exact qa_ini 757 (by decide +kernel) rfl
  | 7, _ => exact qa_ini 759 (by decide +kernel) rfl
  | 8, _ => exact qa_ini 761 (by decide +kernel) rfl
  | 9, _ => exact qa_ini 763 (by decide +kernel) rfl
  | 10, _ => exact qa_ini 765 (by decide +kernel) rfl
  | 11, _ => exact qa_ini 767 (by decide +kernel) rfl
  | 12, _ => exact qa_ini 769 (by decide +kernel) rfl
  | 13, _ => exact qa_ini 771 (by decide +kernel) rfl
  | 14, _ => exact qa_ini 773 (by decide +kernel) rfl
  | 15, _ => exact qa_ini 775 (by decide +kernel) rfl
  | 16, _ => exact qa_ini 777 (by decide +kernel) rfl
  | 17, _ => exact qa_ini 779 (by decide +kernel) rfl
  | 18, _ => exact qa_ini 781 (by decide +kernel) rfl
  | 19, _ => exact qa_ini 783 (by decide +kernel) rfl
  | 20, _ => exact qa_ini 785 (by decide +kernel) rfl
  | 21, _ => exact qa_ini 787 (by decide +kernel) rfl
  | 22, _ => exact qa_ini 789 (by decide +kernel) rfl
  | 23, _ => exact qa_ini 791 (by decide +kernel) rfl
  | 24, _ => exact qa_ini 793 (by decide +kernel) rfl
  | 25, _ => exact qa_ini 795 (by decide +kernel) rfl
  | 26, _ => exact qa_ini 797 (by decide +kernel) rfl
  | 27, _ => exact qa_ini 799 (by decide +kernel) rfl
  | 28, _ => exact qa_ini 801 (by decide +kernel) rfl
  | 29, _ => exact qa_ini 803 (by decide +kernel) rfl
  | 30, _ => exact qa_ini 805 (by decide +kernel) rfl
  | 31, _ => exact qa_ini 807 (by decide +kernel) rfl
  | 32, _ => exact qa_ini 809 (by decide +kernel) rfl
  | 33, _ => exact qa_ini 811 (by decide +kernel) rfl
  | 34, _ => exact qa_ini 813 (by decide +kernel) rfl
  | 35, _ => exact qa_ini 815 (by decide +kernel) rfl
  | 36, _ => exact qa_ini 817 (by decide +kernel) rfl
  | 37, _ => exact qa_ini 819 (by decide +kernel) rfl
  | 38, _ => exact qa_ini 821 (by decide +kernel) rfl
  | 39, _ => exact qa_ini 823 (by decide +kernel) rfl
  | 40, _ => exact qa_ini 825 (by decide +kernel) rfl
  | 41, _ => exact qa_ini 827 (by decide +kernel) rfl
  | 42, _ => exact qa_ini 829 (by decide +kernel) rfl
  | 43, _ => exact qa_ini 831 (by decide +kernel) rfl
  | 44, _ => exact qa_ini 833 (by decide +kernel) rfl
  | 45, _ => exact qa_ini 835 (by decide +kernel) rfl
  | 46, _ => exact qa_ini 837 (by decide +kernel) rfl
  | 47, _ => exact qa_ini 839 (by decide +kernel) rfl
  | n + 48, h => exact absurd h (by omega)
theorem qy_Pr_isType : qa_yV y_Pr_isType b_Pr_isType 2 (some .boolean) 1 := ⟨⟨qa_ini 216 (by decide +kernel) rfl, qa_ini 217 (by decide +kernel) rfl, qa_ini 2 (by decide +kernel) rfl, qa_ini 218 (by decide +kernel) rfl⟩, by decide +kernel⟩
theorem qy_Pr_kinOf : qa_yV y_Pr_kinOf b_Pr_kinOf 2 (some .int) 1 := ⟨⟨qa_ini 224 (by decide +kernel) rfl, qa_ini 225 (by decide +kernel) rfl, qa_ini 2 (by decide +kernel) rfl, qa_ini 226 (by decide +kernel) rfl⟩, by decide +kernel⟩
theorem qy_Pr_fieldsOf : qa_yV y_Pr_fieldsOf b_Pr_fieldsOf 2 (some .int) 1 := ⟨⟨qa_ini 220 (by decide +kernel) rfl, qa_ini 221 (by decide +kernel) rfl, qa_ini 2 (by decide +kernel) rfl, qa_ini 222 (by decide +kernel) rfl⟩, by decide +kernel⟩
theorem qy_Ar_fill : qa_yS y_Ar_fill b_Ar_fill 4 none 2 := ⟨⟨qa_ini 228 (by decide +kernel) rfl, qa_ini 8 (by decide +kernel) rfl, qa_ini 229 (by decide +kernel) rfl⟩, by decide +kernel⟩
theorem qy_Cw_reopenIf : qa_yV y_Cw_reopenIf b_Cw_reopenIf 2 (some .boolean) 1 := ⟨⟨qa_ini 236 (by decide +kernel) rfl, qa_ins 1 (by decide +kernel) rfl, qa_ini 1 (by decide +kernel) rfl, qa_ini 237 (by decide +kernel) rfl⟩, by decide +kernel⟩
theorem qy_Cw_reopenUnlessNone : qa_yV y_Cw_reopenUnlessNone b_Cw_reopenUnlessNone 2 (some .int) 1 := ⟨⟨qa_ini 232 (by decide +kernel) rfl, qa_ins 0 (by decide +kernel) rfl, qa_ini 1 (by decide +kernel) rfl, qa_ini 233 (by decide +kernel) rfl⟩, by decide +kernel⟩
theorem qy_Pr_addType : qa_yV y_Pr_addType b_Pr_addType 5 (some .int) 2 := ⟨⟨qa_ini 212 (by decide +kernel) rfl, qa_ini 213 (by decide +kernel) rfl, qa_ini 2 (by decide +kernel) rfl, qa_ini 214 (by decide +kernel) rfl⟩, by decide +kernel⟩
theorem qy_Cw_within : qa_yS y_Cw_within b_Cw_within 2 (some .boolean) 2 := ⟨⟨qa_ini 247 (by decide +kernel) rfl, qa_ini 1 (by decide +kernel) rfl, qa_ini 248 (by decide +kernel) rfl⟩, by decide +kernel⟩
theorem qy_Pr_addMethod : qa_yV y_Pr_addMethod b_Pr_addMethod 7 (some .int) 3 := ⟨⟨qa_ini 243 (by decide +kernel) rfl, qa_ini 244 (by decide +kernel) rfl, qa_ini 2 (by decide +kernel) rfl, qa_ini 245 (by decide +kernel) rfl⟩, by decide +kernel⟩
theorem qy_Pr_isMethod : qa_yV y_Pr_isMethod b_Pr_isMethod 2 (some .boolean) 1 := ⟨⟨qa_ini 262 (by decide +kernel) rfl, qa_ini 263 (by decide +kernel) rfl, qa_ini 2 (by decide +kernel) rfl, qa_ini 264 (by decide +kernel) rfl⟩, by decide +kernel⟩
theorem qy_Pr_isPlain : qa_yV y_Pr_isPlain b_Pr_isPlain 2 (some .boolean) 1 := ⟨⟨qa_ini 258 (by decide +kernel) rfl, qa_ini 259 (by decide +kernel) rfl, qa_ini 2 (by decide +kernel) rfl, qa_ini 260 (by decide +kernel) rfl⟩, by decide +kernel⟩
theorem qy_Pr_setInitialiser : qa_yV y_Pr_setInitialiser b_Pr_setInitialiser 3 (some .boolean) 2 := ⟨⟨qa_ini 254 (by decide +kernel) rfl, qa_ini 255 (by decide +kernel) rfl, qa_ini 2 (by decide +kernel) rfl, qa_ini 256 (by decide +kernel) rfl⟩, by decide +kernel⟩
theorem qy_Pr_operandFits : qa_yV y_Pr_operandFits b_Pr_operandFits 3 (some .boolean) 2 := ⟨⟨qa_ini 275 (by decide +kernel) rfl, qa_ins 2 (by decide +kernel) rfl, qa_ini 2 (by decide +kernel) rfl, qa_ini 276 (by decide +kernel) rfl⟩, by decide +kernel⟩
theorem qy_Pr_addCode : qa_yV y_Pr_addCode b_Pr_addCode 5 (some .int) 3 := ⟨⟨qa_ini 270 (by decide +kernel) rfl, qa_ini 271 (by decide +kernel) rfl, qa_ini 2 (by decide +kernel) rfl, qa_ini 272 (by decide +kernel) rfl⟩, by decide +kernel⟩
theorem qy_Pr_addGuard : qa_yV y_Pr_addGuard b_Pr_addGuard 6 (some .boolean) 4 := ⟨⟨qa_ini 282 (by decide +kernel) rfl, qa_ini 283 (by decide +kernel) rfl, qa_ini 2 (by decide +kernel) rfl, qa_ini 284 (by decide +kernel) rfl⟩, by decide +kernel⟩
theorem qy_Ar_rangeCheck : qa_yS y_Ar_rangeCheck b_Ar_rangeCheck 3 none 3 := ⟨⟨qa_ini 308 (by decide +kernel) rfl, qa_ini 8 (by decide +kernel) rfl, qa_ini 309 (by decide +kernel) rfl⟩, by decide +kernel⟩
theorem qy_Cw_has : qa_yS y_Cw_has b_Cw_has 2 (some .boolean) 2 := ⟨⟨qa_ini 363 (by decide +kernel) rfl, qa_ini 1 (by decide +kernel) rfl, qa_ini 364 (by decide +kernel) rfl⟩, by decide +kernel⟩
theorem qy_Pr_nearestCommon : qa_yV y_Pr_nearestCommon b_Pr_nearestCommon 5 (some .int) 2 := ⟨⟨qa_ini 359 (by decide +kernel) rfl, qa_ini 360 (by decide +kernel) rfl, qa_ini 2 (by decide +kernel) rfl, qa_ini 361 (by decide +kernel) rfl⟩, by decide +kernel⟩
theorem qy_Ch_rowOf : qa_yS y_Ch_rowOf b_Ch_rowOf 2 (some .int) 2 := ⟨⟨qa_ini 302 (by decide +kernel) rfl, qa_ini 3 (by decide +kernel) rfl, qa_ini 303 (by decide +kernel) rfl⟩, by decide +kernel⟩
theorem qy_Pr_lengthOf : qa_yV y_Pr_lengthOf b_Pr_lengthOf 2 (some .int) 1 := ⟨⟨qa_ini 338 (by decide +kernel) rfl, qa_ini 339 (by decide +kernel) rfl, qa_ini 2 (by decide +kernel) rfl, qa_ini 340 (by decide +kernel) rfl⟩, by decide +kernel⟩
theorem qy_Fr_size : qa_yV y_Fr_size b_Fr_size 1 (some .int) 0 := ⟨⟨qa_ini 343 (by decide +kernel) rfl, qa_ini 344 (by decide +kernel) rfl, qa_ini 4 (by decide +kernel) rfl, qa_ini 345 (by decide +kernel) rfl⟩, by decide +kernel⟩
theorem qy_Ch_need : qa_yV y_Ch_need b_Ch_need 2 none 1 := ⟨⟨qa_ini 348 (by decide +kernel) rfl, qa_ins 5 (by decide +kernel) rfl, qa_ini 3 (by decide +kernel) rfl, qa_ini 349 (by decide +kernel) rfl⟩, by decide +kernel⟩
theorem qy_Ch_join : qa_yV y_Ch_join b_Ch_join 4 (some .int) 2 := ⟨⟨qa_ini 356 (by decide +kernel) rfl, qa_ins 6 (by decide +kernel) rfl, qa_ini 3 (by decide +kernel) rfl, qa_ini 357 (by decide +kernel) rfl⟩, by decide +kernel⟩
theorem qy_Fr_place : qa_yV y_Fr_place b_Fr_place 2 (some .int) 1 := ⟨⟨qa_ini 351 (by decide +kernel) rfl, qa_ini 352 (by decide +kernel) rfl, qa_ini 4 (by decide +kernel) rfl, qa_ini 353 (by decide +kernel) rfl⟩, by decide +kernel⟩
theorem qy_Fr_clear : qa_yV y_Fr_clear b_Fr_clear 1 none 0 := ⟨⟨qa_ini 315 (by decide +kernel) rfl, qa_ini 316 (by decide +kernel) rfl, qa_ini 4 (by decide +kernel) rfl, qa_ini 317 (by decide +kernel) rfl⟩, by decide +kernel⟩
theorem qy_Fr_setPlace : qa_yV y_Fr_setPlace b_Fr_setPlace 3 none 2 := ⟨⟨qa_ini 324 (by decide +kernel) rfl, qa_ini 325 (by decide +kernel) rfl, qa_ini 4 (by decide +kernel) rfl, qa_ini 326 (by decide +kernel) rfl⟩, by decide +kernel⟩
theorem qy_Pr_ownerOf : qa_yV y_Pr_ownerOf b_Pr_ownerOf 2 (some .int) 1 := ⟨⟨qa_ini 330 (by decide +kernel) rfl, qa_ini 331 (by decide +kernel) rfl, qa_ini 2 (by decide +kernel) rfl, qa_ini 332 (by decide +kernel) rfl⟩, by decide +kernel⟩
theorem qy_Pr_inputsOf : qa_yV y_Pr_inputsOf b_Pr_inputsOf 2 (some .int) 1 := ⟨⟨qa_ini 320 (by decide +kernel) rfl, qa_ini 321 (by decide +kernel) rfl, qa_ini 2 (by decide +kernel) rfl, qa_ini 322 (by decide +kernel) rfl⟩, by decide +kernel⟩
theorem qy_Ch_arriveAt : qa_yV y_Ch_arriveAt b_Ch_arriveAt 7 none 1 := ⟨⟨qa_ini 335 (by decide +kernel) rfl, qa_ins 4 (by decide +kernel) rfl, qa_ini 3 (by decide +kernel) rfl, qa_ini 336 (by decide +kernel) rfl⟩, by decide +kernel⟩
theorem qy_Fr_setSize : qa_yV y_Fr_setSize b_Fr_setSize 2 none 1 := ⟨⟨qa_ini 383 (by decide +kernel) rfl, qa_ini 384 (by decide +kernel) rfl, qa_ini 4 (by decide +kernel) rfl, qa_ini 385 (by decide +kernel) rfl⟩, by decide +kernel⟩
theorem qy_Fr_push : qa_yV y_Fr_push b_Fr_push 2 none 1 := ⟨⟨qa_ini 391 (by decide +kernel) rfl, qa_ini 392 (by decide +kernel) rfl, qa_ini 4 (by decide +kernel) rfl, qa_ini 393 (by decide +kernel) rfl⟩, by decide +kernel⟩
theorem qy_Fr_pop : qa_yV y_Fr_pop b_Fr_pop 1 (some .int) 0 := ⟨⟨qa_ini 417 (by decide +kernel) rfl, qa_ini 418 (by decide +kernel) rfl, qa_ini 4 (by decide +kernel) rfl, qa_ini 419 (by decide +kernel) rfl⟩, by decide +kernel⟩
theorem qy_Ch_takeAny : qa_yV y_Ch_takeAny b_Ch_takeAny 1 (some .int) 0 := ⟨⟨qa_ini 414 (by decide +kernel) rfl, qa_ins 12 (by decide +kernel) rfl, qa_ini 3 (by decide +kernel) rfl, qa_ini 415 (by decide +kernel) rfl⟩, by decide +kernel⟩
theorem qy_Ch_takeObject : qa_yV y_Ch_takeObject b_Ch_takeObject 2 (some .int) 0 := ⟨⟨qa_ini 430 (by decide +kernel) rfl, qa_ins 15 (by decide +kernel) rfl, qa_ini 3 (by decide +kernel) rfl, qa_ini 431 (by decide +kernel) rfl⟩, by decide +kernel⟩
theorem qy_Ch_takeNumbers : qa_yV y_Ch_takeNumbers b_Ch_takeNumbers 3 none 1 := ⟨⟨qa_ini 422 (by decide +kernel) rfl, qa_ins 13 (by decide +kernel) rfl, qa_ini 3 (by decide +kernel) rfl, qa_ini 423 (by decide +kernel) rfl⟩, by decide +kernel⟩
theorem qy_Pr_answering : qa_yV y_Pr_answering b_Pr_answering 4 (some .int) 2 := ⟨⟨qa_ini 435 (by decide +kernel) rfl, qa_ini 436 (by decide +kernel) rfl, qa_ini 2 (by decide +kernel) rfl, qa_ini 437 (by decide +kernel) rfl⟩, by decide +kernel⟩
theorem qy_Ch_put : qa_yV y_Ch_put b_Ch_put 2 none 1 := ⟨⟨qa_ini 409 (by decide +kernel) rfl, qa_ins 11 (by decide +kernel) rfl, qa_ini 3 (by decide +kernel) rfl, qa_ini 410 (by decide +kernel) rfl⟩, by decide +kernel⟩
theorem qy_Ch_applyToObject : qa_yV y_Ch_applyToObject b_Ch_applyToObject 3 none 2 := ⟨⟨qa_ini 426 (by decide +kernel) rfl, qa_ins 14 (by decide +kernel) rfl, qa_ini 3 (by decide +kernel) rfl, qa_ini 427 (by decide +kernel) rfl⟩, by decide +kernel⟩
theorem qy_Fr_goOnWith : qa_yV y_Fr_goOnWith b_Fr_goOnWith 3 none 2 := ⟨⟨qa_ini 387 (by decide +kernel) rfl, qa_ini 388 (by decide +kernel) rfl, qa_ini 4 (by decide +kernel) rfl, qa_ini 389 (by decide +kernel) rfl⟩, by decide +kernel⟩
theorem qy_Ch_recall : qa_yV y_Ch_recall b_Ch_recall 4 none 1 := ⟨⟨qa_ini 380 (by decide +kernel) rfl, qa_ins 9 (by decide +kernel) rfl, qa_ini 3 (by decide +kernel) rfl, qa_ini 381 (by decide +kernel) rfl⟩, by decide +kernel⟩
theorem qy_Pr_handlerOf : qa_yV y_Pr_handlerOf b_Pr_handlerOf 4 (some .int) 2 := ⟨⟨qa_ini 375 (by decide +kernel) rfl, qa_ini 376 (by decide +kernel) rfl, qa_ini 2 (by decide +kernel) rfl, qa_ini 377 (by decide +kernel) rfl⟩, by decide +kernel⟩
theorem qy_Ch_apply : qa_yV y_Ch_apply b_Ch_apply 3 none 2 := ⟨⟨qa_ini 405 (by decide +kernel) rfl, qa_ins 10 (by decide +kernel) rfl, qa_ini 3 (by decide +kernel) rfl, qa_ini 406 (by decide +kernel) rfl⟩, by decide +kernel⟩
theorem qy_Pr_operandOf : qa_yV y_Pr_operandOf b_Pr_operandOf 3 (some .int) 2 := ⟨⟨qa_ini 400 (by decide +kernel) rfl, qa_ini 401 (by decide +kernel) rfl, qa_ini 2 (by decide +kernel) rfl, qa_ini 402 (by decide +kernel) rfl⟩, by decide +kernel⟩
theorem qy_Pr_opOf : qa_yV y_Pr_opOf b_Pr_opOf 3 (some .int) 2 := ⟨⟨qa_ini 395 (by decide +kernel) rfl, qa_ini 396 (by decide +kernel) rfl, qa_ini 2 (by decide +kernel) rfl, qa_ini 397 (by decide +kernel) rfl⟩, by decide +kernel⟩
theorem qy_Ch_enterStart : qa_yV y_Ch_enterStart b_Ch_enterStart 2 none 0 := ⟨⟨qa_ini 312 (by decide +kernel) rfl, qa_ins 3 (by decide +kernel) rfl, qa_ini 3 (by decide +kernel) rfl, qa_ini 313 (by decide +kernel) rfl⟩, by decide +kernel⟩
theorem qy_Ar_fill4 : qa_yS y_Ar_fill4 b_Ar_fill4 5 none 4 := ⟨⟨qa_ini 305 (by decide +kernel) rfl, qa_ini 8 (by decide +kernel) rfl, qa_ini 306 (by decide +kernel) rfl⟩, by decide +kernel⟩
theorem qy_Ch_visit : qa_yV y_Ch_visit b_Ch_visit 5 none 1 := ⟨⟨qa_ini 372 (by decide +kernel) rfl, qa_ins 8 (by decide +kernel) rfl, qa_ini 3 (by decide +kernel) rfl, qa_ini 373 (by decide +kernel) rfl⟩, by decide +kernel⟩
theorem qy_Ch_firstWaiting : qa_yV y_Ch_firstWaiting b_Ch_firstWaiting 2 (some .int) 0 := ⟨⟨qa_ini 367 (by decide +kernel) rfl, qa_ins 7 (by decide +kernel) rfl, qa_ini 3 (by decide +kernel) rfl, qa_ini 368 (by decide +kernel) rfl⟩, by decide +kernel⟩
theorem qy_Pr_isOf : qa_yV y_Pr_isOf b_Pr_isOf 3 (some .boolean) 2 := ⟨⟨qa_ini 456 (by decide +kernel) rfl, qa_ini 457 (by decide +kernel) rfl, qa_ini 2 (by decide +kernel) rfl, qa_ini 458 (by decide +kernel) rfl⟩, by decide +kernel⟩
theorem qy_Pr_initialiserOf : qa_yV y_Pr_initialiserOf b_Pr_initialiserOf 2 (some .int) 1 := ⟨⟨qa_ini 452 (by decide +kernel) rfl, qa_ini 453 (by decide +kernel) rfl, qa_ini 2 (by decide +kernel) rfl, qa_ini 454 (by decide +kernel) rfl⟩, by decide +kernel⟩
theorem qy_Re_touch : qa_yV y_Re_touch b_Re_touch 4 none 1 := ⟨⟨qa_ini 449 (by decide +kernel) rfl, qa_ins 17 (by decide +kernel) rfl, qa_ini 5 (by decide +kernel) rfl, qa_ini 450 (by decide +kernel) rfl⟩, by decide +kernel⟩
theorem qy_Ch_isReached : qa_yV y_Ch_isReached b_Ch_isReached 3 (some .boolean) 2 := ⟨⟨qa_ini 472 (by decide +kernel) rfl, qa_ini 473 (by decide +kernel) rfl, qa_ini 3 (by decide +kernel) rfl, qa_ini 474 (by decide +kernel) rfl⟩, by decide +kernel⟩
theorem qy_Ch_receiverAt : qa_yV y_Ch_receiverAt b_Ch_receiverAt 4 (some .int) 2 := ⟨⟨qa_ini 487 (by decide +kernel) rfl, qa_ini 488 (by decide +kernel) rfl, qa_ini 3 (by decide +kernel) rfl, qa_ini 489 (by decide +kernel) rfl⟩, by decide +kernel⟩
theorem qy_Pr_typeCount : qa_yV y_Pr_typeCount b_Pr_typeCount 1 (some .int) 0 := ⟨⟨qa_ini 492 (by decide +kernel) rfl, qa_ini 493 (by decide +kernel) rfl, qa_ini 2 (by decide +kernel) rfl, qa_ini 494 (by decide +kernel) rfl⟩, by decide +kernel⟩
theorem qy_Re_reachCall : qa_yV y_Re_reachCall b_Re_reachCall 2 none 1 := ⟨⟨qa_ini 444 (by decide +kernel) rfl, qa_ins 16 (by decide +kernel) rfl, qa_ini 5 (by decide +kernel) rfl, qa_ini 445 (by decide +kernel) rfl⟩, by decide +kernel⟩
theorem qy_Re_targetSet : qa_yV y_Re_targetSet b_Re_targetSet 8 (some .int) 2 := ⟨⟨qa_ini 483 (by decide +kernel) rfl, qa_ini 484 (by decide +kernel) rfl, qa_ini 5 (by decide +kernel) rfl, qa_ini 485 (by decide +kernel) rfl⟩, by decide +kernel⟩
theorem qy_Pr_methodCount : qa_yV y_Pr_methodCount b_Pr_methodCount 1 (some .int) 0 := ⟨⟨qa_ini 294 (by decide +kernel) rfl, qa_ini 295 (by decide +kernel) rfl, qa_ini 2 (by decide +kernel) rfl, qa_ini 296 (by decide +kernel) rfl⟩, by decide +kernel⟩
theorem qy_Re_follow : qa_yV y_Re_follow b_Re_follow 4 none 2 := ⟨⟨qa_ini 478 (by decide +kernel) rfl, qa_ins 19 (by decide +kernel) rfl, qa_ini 5 (by decide +kernel) rfl, qa_ini 479 (by decide +kernel) rfl⟩, by decide +kernel⟩
theorem qy_Re_isLive : qa_yV y_Re_isLive b_Re_isLive 2 (some .boolean) 1 := ⟨⟨qa_ini 466 (by decide +kernel) rfl, qa_ini 467 (by decide +kernel) rfl, qa_ini 5 (by decide +kernel) rfl, qa_ini 468 (by decide +kernel) rfl⟩, by decide +kernel⟩
theorem qy_Re_followLive : qa_yV y_Re_followLive b_Re_followLive 3 none 0 := ⟨⟨qa_ini 461 (by decide +kernel) rfl, qa_ins 18 (by decide +kernel) rfl, qa_ini 5 (by decide +kernel) rfl, qa_ini 462 (by decide +kernel) rfl⟩, by decide +kernel⟩
theorem qy_Pr_hasStart : qa_yV y_Pr_hasStart b_Pr_hasStart 1 (some .boolean) 0 := ⟨⟨qa_ini 290 (by decide +kernel) rfl, qa_ini 291 (by decide +kernel) rfl, qa_ini 2 (by decide +kernel) rfl, qa_ini 292 (by decide +kernel) rfl⟩, by decide +kernel⟩
theorem qy_Re_find : qa_yV y_Re_find b_Re_find 5 none 0 := ⟨⟨qa_ini 439 (by decide +kernel) rfl, qa_ini 440 (by decide +kernel) rfl, qa_ini 5 (by decide +kernel) rfl, qa_ini 441 (by decide +kernel) rfl⟩, by decide +kernel⟩
theorem qy_Ch_isSound : qa_yV y_Ch_isSound b_Ch_isSound 3 (some .boolean) 1 := ⟨⟨qa_ini 298 (by decide +kernel) rfl, qa_ini 299 (by decide +kernel) rfl, qa_ini 3 (by decide +kernel) rfl, qa_ini 300 (by decide +kernel) rfl⟩, by decide +kernel⟩
theorem qy_Ch_typeOf : qa_yV y_Ch_typeOf b_Ch_typeOf 5 (some .int) 3 := ⟨⟨qa_ini 501 (by decide +kernel) rfl, qa_ini 502 (by decide +kernel) rfl, qa_ini 3 (by decide +kernel) rfl, qa_ini 503 (by decide +kernel) rfl⟩, by decide +kernel⟩
theorem qy_In_bitCount : qa_yS y_In_bitCount b_In_bitCount 1 (some .int) 1 := ⟨⟨qa_ini 518 (by decide +kernel) rfl, qa_ini 9 (by decide +kernel) rfl, qa_ini 519 (by decide +kernel) rfl⟩, by decide +kernel⟩
theorem qy_Pr_slotOf : qa_yV y_Pr_slotOf b_Pr_slotOf 7 (some .int) 2 := ⟨⟨qa_ini 514 (by decide +kernel) rfl, qa_ini 515 (by decide +kernel) rfl, qa_ini 2 (by decide +kernel) rfl, qa_ini 516 (by decide +kernel) rfl⟩, by decide +kernel⟩
theorem qy_Cw_live : qa_yV y_Cw_live b_Cw_live 2 (some .boolean) 1 := ⟨⟨qa_ini 524 (by decide +kernel) rfl, qa_ini 525 (by decide +kernel) rfl, qa_ini 1 (by decide +kernel) rfl, qa_ini 526 (by decide +kernel) rfl⟩, by decide +kernel⟩
theorem qy_Ma_toss : qa_yV y_Ma_toss b_Ma_toss 2 (some .int) 1 := ⟨⟨qa_ini 562 (by decide +kernel) rfl, qa_ins 22 (by decide +kernel) rfl, qa_ini 6 (by decide +kernel) rfl, qa_ini 563 (by decide +kernel) rfl⟩, by decide +kernel⟩
theorem qy_Ma_isNull : qa_yV y_Ma_isNull b_Ma_isNull 2 (some .boolean) 1 := ⟨⟨qa_ini 603 (by decide +kernel) rfl, qa_ins 27 (by decide +kernel) rfl, qa_ini 6 (by decide +kernel) rfl, qa_ini 604 (by decide +kernel) rfl⟩, by decide +kernel⟩
theorem qy_Ma_finalValue : qa_yV y_Ma_finalValue b_Ma_finalValue 1 (some .int) 0 := ⟨⟨qa_ini 639 (by decide +kernel) rfl, qa_ini 640 (by decide +kernel) rfl, qa_ini 6 (by decide +kernel) rfl, qa_ini 641 (by decide +kernel) rfl⟩, by decide +kernel⟩
theorem qy_Ma_stepCount : qa_yV y_Ma_stepCount b_Ma_stepCount 1 (some .int) 0 := ⟨⟨qa_ini 647 (by decide +kernel) rfl, qa_ini 648 (by decide +kernel) rfl, qa_ini 6 (by decide +kernel) rfl, qa_ini 649 (by decide +kernel) rfl⟩, by decide +kernel⟩
theorem qy_Ma_printCount : qa_yV y_Ma_printCount b_Ma_printCount 1 (some .int) 0 := ⟨⟨qa_ini 655 (by decide +kernel) rfl, qa_ini 656 (by decide +kernel) rfl, qa_ini 6 (by decide +kernel) rfl, qa_ini 657 (by decide +kernel) rfl⟩, by decide +kernel⟩
theorem qy_Ma_printOf : qa_yV y_Ma_printOf b_Ma_printOf 2 (some .int) 1 := ⟨⟨qa_ini 663 (by decide +kernel) rfl, qa_ini 664 (by decide +kernel) rfl, qa_ini 6 (by decide +kernel) rfl, qa_ini 665 (by decide +kernel) rfl⟩, by decide +kernel⟩
theorem qy_Ma_orderOf : qa_yV y_Ma_orderOf b_Ma_orderOf 2 (some .int) 1 := ⟨⟨qa_ini 672 (by decide +kernel) rfl, qa_ini 673 (by decide +kernel) rfl, qa_ini 6 (by decide +kernel) rfl, qa_ini 674 (by decide +kernel) rfl⟩, by decide +kernel⟩
theorem qy_Ma_objectCount : qa_yV y_Ma_objectCount b_Ma_objectCount 1 (some .int) 0 := ⟨⟨qa_ini 680 (by decide +kernel) rfl, qa_ini 681 (by decide +kernel) rfl, qa_ini 6 (by decide +kernel) rfl, qa_ini 682 (by decide +kernel) rfl⟩, by decide +kernel⟩
theorem qy_Ma_staticOf : qa_yV y_Ma_staticOf b_Ma_staticOf 2 (some .int) 1 := ⟨⟨qa_ini 688 (by decide +kernel) rfl, qa_ini 689 (by decide +kernel) rfl, qa_ini 6 (by decide +kernel) rfl, qa_ini 690 (by decide +kernel) rfl⟩, by decide +kernel⟩
theorem qy_Ma_perform : qa_yV y_Ma_perform b_Ma_perform 9 (some .int) 2 := ⟨⟨qa_ini 558 (by decide +kernel) rfl, qa_ins 21 (by decide +kernel) rfl, qa_ini 6 (by decide +kernel) rfl, qa_ini 559 (by decide +kernel) rfl⟩, by decide +kernel⟩
theorem qy_Ma_receive : qa_yV y_Ma_receive b_Ma_receive 3 (some .int) 2 := ⟨⟨qa_ini 621 (by decide +kernel) rfl, qa_ins 30 (by decide +kernel) rfl, qa_ini 6 (by decide +kernel) rfl, qa_ini 622 (by decide +kernel) rfl⟩, by decide +kernel⟩
theorem qy_Fr_second : qa_yV y_Fr_second b_Fr_second 1 (some .int) 0 := ⟨⟨qa_ini 615 (by decide +kernel) rfl, qa_ini 616 (by decide +kernel) rfl, qa_ini 4 (by decide +kernel) rfl, qa_ini 617 (by decide +kernel) rfl⟩, by decide +kernel⟩
theorem qy_Ma_makeObject : qa_yV y_Ma_makeObject b_Ma_makeObject 4 (some .int) 2 := ⟨⟨qa_ini 629 (by decide +kernel) rfl, qa_ins 32 (by decide +kernel) rfl, qa_ini 6 (by decide +kernel) rfl, qa_ini 630 (by decide +kernel) rfl⟩, by decide +kernel⟩
theorem qy_Ma_trigger : qa_yV y_Ma_trigger b_Ma_trigger 6 (some .int) 2 := ⟨⟨qa_ini 552 (by decide +kernel) rfl, qa_ins 20 (by decide +kernel) rfl, qa_ini 6 (by decide +kernel) rfl, qa_ini 553 (by decide +kernel) rfl⟩, by decide +kernel⟩
theorem qy_Ma_calculate : qa_yV y_Ma_calculate b_Ma_calculate 5 (some .int) 2 := ⟨⟨qa_ini 591 (by decide +kernel) rfl, qa_ins 24 (by decide +kernel) rfl, qa_ini 6 (by decide +kernel) rfl, qa_ini 592 (by decide +kernel) rfl⟩, by decide +kernel⟩
theorem qy_Fr_setNext : qa_yV y_Fr_setNext b_Fr_setNext 2 none 1 := ⟨⟨qa_ini 577 (by decide +kernel) rfl, qa_ini 578 (by decide +kernel) rfl, qa_ini 4 (by decide +kernel) rfl, qa_ini 579 (by decide +kernel) rfl⟩, by decide +kernel⟩
theorem qy_Ma_executeTriggering : qa_yV y_Ma_executeTriggering b_Ma_executeTriggering 6 (some .int) 3 := ⟨⟨qa_ini 625 (by decide +kernel) rfl, qa_ins 31 (by decide +kernel) rfl, qa_ini 6 (by decide +kernel) rfl, qa_ini 626 (by decide +kernel) rfl⟩, by decide +kernel⟩
theorem qy_Ma_accessField : qa_yV y_Ma_accessField b_Ma_accessField 7 (some .int) 3 := ⟨⟨qa_ini 599 (by decide +kernel) rfl, qa_ins 26 (by decide +kernel) rfl, qa_ini 6 (by decide +kernel) rfl, qa_ini 600 (by decide +kernel) rfl⟩, by decide +kernel⟩
theorem qy_Ma_send : qa_yV y_Ma_send b_Ma_send 5 (some .int) 2 := ⟨⟨qa_ini 612 (by decide +kernel) rfl, qa_ins 29 (by decide +kernel) rfl, qa_ini 6 (by decide +kernel) rfl, qa_ini 613 (by decide +kernel) rfl⟩, by decide +kernel⟩
theorem qy_Ma_testType : qa_yV y_Ma_testType b_Ma_testType 6 (some .int) 3 := ⟨⟨qa_ini 608 (by decide +kernel) rfl, qa_ins 28 (by decide +kernel) rfl, qa_ini 6 (by decide +kernel) rfl, qa_ini 609 (by decide +kernel) rfl⟩, by decide +kernel⟩
theorem qy_Ma_print : qa_yV y_Ma_print b_Ma_print 2 none 1 := ⟨⟨qa_ini 595 (by decide +kernel) rfl, qa_ins 25 (by decide +kernel) rfl, qa_ini 6 (by decide +kernel) rfl, qa_ini 596 (by decide +kernel) rfl⟩, by decide +kernel⟩
theorem qy_Fr_beginFrom : qa_yV y_Fr_beginFrom b_Fr_beginFrom 4 none 2 := ⟨⟨qa_ini 566 (by decide +kernel) rfl, qa_ini 567 (by decide +kernel) rfl, qa_ini 4 (by decide +kernel) rfl, qa_ini 568 (by decide +kernel) rfl⟩, by decide +kernel⟩
theorem qy_Ma_execute : qa_yV y_Ma_execute b_Ma_execute 5 (some .int) 3 := ⟨⟨qa_ini 584 (by decide +kernel) rfl, qa_ins 23 (by decide +kernel) rfl, qa_ini 6 (by decide +kernel) rfl, qa_ini 585 (by decide +kernel) rfl⟩, by decide +kernel⟩
theorem qy_Fr_next : qa_yV y_Fr_next b_Fr_next 1 (some .int) 0 := ⟨⟨qa_ini 573 (by decide +kernel) rfl, qa_ini 574 (by decide +kernel) rfl, qa_ini 4 (by decide +kernel) rfl, qa_ini 575 (by decide +kernel) rfl⟩, by decide +kernel⟩
theorem qy_Ma_start : qa_yV y_Ma_start b_Ma_start 4 (some .int) 2 := ⟨⟨qa_ini 543 (by decide +kernel) rfl, qa_ini 544 (by decide +kernel) rfl, qa_ini 6 (by decide +kernel) rfl, qa_ini 545 (by decide +kernel) rfl⟩, by decide +kernel⟩
theorem qy_Mo_width : qa_yV y_Mo_width b_Mo_width 4 (some .int) 1 := ⟨⟨qa_ini 852 (by decide +kernel) rfl, qa_ins 33 (by decide +kernel) rfl, qa_ini 7 (by decide +kernel) rfl, qa_ini 853 (by decide +kernel) rfl⟩, by decide +kernel⟩
theorem qy_Mo_within : qa_yS y_Mo_within b_Mo_within 2 (some .boolean) 2 := ⟨⟨qa_ini 848 (by decide +kernel) rfl, qa_ini 7 (by decide +kernel) rfl, qa_ini 849 (by decide +kernel) rfl⟩, by decide +kernel⟩
theorem qy_Mo_changed : qa_yV y_Mo_changed b_Mo_changed 1 none 0 := ⟨⟨qa_ini 856 (by decide +kernel) rfl, qa_ins 34 (by decide +kernel) rfl, qa_ini 7 (by decide +kernel) rfl, qa_ini 857 (by decide +kernel) rfl⟩, by decide +kernel⟩
theorem qy_Mo_ownMethod : qa_yV y_Mo_ownMethod b_Mo_ownMethod 4 (some .int) 2 := ⟨⟨qa_ini 864 (by decide +kernel) rfl, qa_ins 35 (by decide +kernel) rfl, qa_ini 7 (by decide +kernel) rfl, qa_ini 865 (by decide +kernel) rfl⟩, by decide +kernel⟩
theorem qy_Mo_fits : qa_yV y_Mo_fits b_Mo_fits 3 (some .boolean) 2 := ⟨⟨qa_ini 876 (by decide +kernel) rfl, qa_ins 36 (by decide +kernel) rfl, qa_ini 7 (by decide +kernel) rfl, qa_ini 877 (by decide +kernel) rfl⟩, by decide +kernel⟩
theorem qy_Mo_isOf : qa_yV y_Mo_isOf b_Mo_isOf 5 (some .boolean) 2 := ⟨⟨qa_ini 900 (by decide +kernel) rfl, qa_ins 39 (by decide +kernel) rfl, qa_ini 7 (by decide +kernel) rfl, qa_ini 901 (by decide +kernel) rfl⟩, by decide +kernel⟩
theorem qy_Mo_maker : qa_yV y_Mo_maker b_Mo_maker 6 (some .int) 2 := ⟨⟨qa_ini 892 (by decide +kernel) rfl, qa_ins 37 (by decide +kernel) rfl, qa_ini 7 (by decide +kernel) rfl, qa_ini 893 (by decide +kernel) rfl⟩, by decide +kernel⟩
theorem qy_Mo_before : qa_yV y_Mo_before b_Mo_before 7 (some .int) 2 := ⟨⟨qa_ini 896 (by decide +kernel) rfl, qa_ins 38 (by decide +kernel) rfl, qa_ini 7 (by decide +kernel) rfl, qa_ini 897 (by decide +kernel) rfl⟩, by decide +kernel⟩
theorem qy_Mo_join : qa_yV y_Mo_join b_Mo_join 5 (some .int) 2 := ⟨⟨qa_ini 916 (by decide +kernel) rfl, qa_ins 42 (by decide +kernel) rfl, qa_ini 7 (by decide +kernel) rfl, qa_ini 917 (by decide +kernel) rfl⟩, by decide +kernel⟩
theorem qy_Mo_take : qa_yV y_Mo_take b_Mo_take 3 (some .int) 1 := ⟨⟨qa_ini 932 (by decide +kernel) rfl, qa_ins 46 (by decide +kernel) rfl, qa_ini 7 (by decide +kernel) rfl, qa_ini 933 (by decide +kernel) rfl⟩, by decide +kernel⟩
theorem qy_Mo_answer : qa_yV y_Mo_answer b_Mo_answer 5 (some .int) 2 := ⟨⟨qa_ini 883 (by decide +kernel) rfl, qa_ini 884 (by decide +kernel) rfl, qa_ini 7 (by decide +kernel) rfl, qa_ini 885 (by decide +kernel) rfl⟩, by decide +kernel⟩
theorem qy_Mo_give : qa_yV y_Mo_give b_Mo_give 2 none 1 := ⟨⟨qa_ini 937 (by decide +kernel) rfl, qa_ins 47 (by decide +kernel) rfl, qa_ini 7 (by decide +kernel) rfl, qa_ini 938 (by decide +kernel) rfl⟩, by decide +kernel⟩
theorem qy_Mo_arrive : qa_yV y_Mo_arrive b_Mo_arrive 6 none 2 := ⟨⟨qa_ini 912 (by decide +kernel) rfl, qa_ins 41 (by decide +kernel) rfl, qa_ini 7 (by decide +kernel) rfl, qa_ini 913 (by decide +kernel) rfl⟩, by decide +kernel⟩
theorem qy_Mo_effect : qa_yV y_Mo_effect b_Mo_effect 5 none 2 := ⟨⟨qa_ini 928 (by decide +kernel) rfl, qa_ins 45 (by decide +kernel) rfl, qa_ini 7 (by decide +kernel) rfl, qa_ini 929 (by decide +kernel) rfl⟩, by decide +kernel⟩
theorem qy_Mo_load : qa_yV y_Mo_load b_Mo_load 3 none 1 := ⟨⟨qa_ini 924 (by decide +kernel) rfl, qa_ins 44 (by decide +kernel) rfl, qa_ini 7 (by decide +kernel) rfl, qa_ini 925 (by decide +kernel) rfl⟩, by decide +kernel⟩
theorem qy_Mo_guarded : qa_yV y_Mo_guarded b_Mo_guarded 4 (some .int) 2 := ⟨⟨qa_ini 941 (by decide +kernel) rfl, qa_ins 48 (by decide +kernel) rfl, qa_ini 7 (by decide +kernel) rfl, qa_ini 942 (by decide +kernel) rfl⟩, by decide +kernel⟩
theorem qy_Mo_flow : qa_yV y_Mo_flow b_Mo_flow 7 none 2 := ⟨⟨qa_ini 920 (by decide +kernel) rfl, qa_ins 43 (by decide +kernel) rfl, qa_ini 7 (by decide +kernel) rfl, qa_ini 921 (by decide +kernel) rfl⟩, by decide +kernel⟩
theorem qy_Mo_enliven : qa_yV y_Mo_enliven b_Mo_enliven 2 none 1 := ⟨⟨qa_ini 953 (by decide +kernel) rfl, qa_ins 51 (by decide +kernel) rfl, qa_ini 7 (by decide +kernel) rfl, qa_ini 954 (by decide +kernel) rfl⟩, by decide +kernel⟩
theorem qy_Mo_receiver : qa_yV y_Mo_receiver b_Mo_receiver 2 (some .int) 1 := ⟨⟨qa_ini 965 (by decide +kernel) rfl, qa_ins 54 (by decide +kernel) rfl, qa_ini 7 (by decide +kernel) rfl, qa_ini 966 (by decide +kernel) rfl⟩, by decide +kernel⟩
theorem qy_Mo_touch : qa_yV y_Mo_touch b_Mo_touch 3 none 1 := ⟨⟨qa_ini 949 (by decide +kernel) rfl, qa_ins 50 (by decide +kernel) rfl, qa_ini 7 (by decide +kernel) rfl, qa_ini 950 (by decide +kernel) rfl⟩, by decide +kernel⟩
theorem qy_Mo_target : qa_yV y_Mo_target b_Mo_target 6 (some .boolean) 2 := ⟨⟨qa_ini 961 (by decide +kernel) rfl, qa_ins 53 (by decide +kernel) rfl, qa_ini 7 (by decide +kernel) rfl, qa_ini 962 (by decide +kernel) rfl⟩, by decide +kernel⟩
theorem qy_Mo_reach : qa_yV y_Mo_reach b_Mo_reach 5 none 1 := ⟨⟨qa_ini 957 (by decide +kernel) rfl, qa_ins 52 (by decide +kernel) rfl, qa_ini 7 (by decide +kernel) rfl, qa_ini 958 (by decide +kernel) rfl⟩, by decide +kernel⟩
theorem qy_Mo_spread : qa_yV y_Mo_spread b_Mo_spread 3 none 0 := ⟨⟨qa_ini 945 (by decide +kernel) rfl, qa_ins 49 (by decide +kernel) rfl, qa_ini 7 (by decide +kernel) rfl, qa_ini 946 (by decide +kernel) rfl⟩, by decide +kernel⟩
theorem qy_Mo_sound : qa_yV y_Mo_sound b_Mo_sound 4 (some .boolean) 1 := ⟨⟨qa_ini 908 (by decide +kernel) rfl, qa_ins 40 (by decide +kernel) rfl, qa_ini 7 (by decide +kernel) rfl, qa_ini 909 (by decide +kernel) rfl⟩, by decide +kernel⟩
theorem qy_Mo_reachedAt : qa_yV y_Mo_reachedAt b_Mo_reachedAt 3 (some .boolean) 2 := ⟨⟨qa_ini 973 (by decide +kernel) rfl, qa_ins 55 (by decide +kernel) rfl, qa_ini 7 (by decide +kernel) rfl, qa_ini 974 (by decide +kernel) rfl⟩, by decide +kernel⟩
theorem qy_Mo_enter : qa_yV y_Mo_enter b_Mo_enter 4 none 2 := ⟨⟨qa_ini 1001 (by decide +kernel) rfl, qa_ins 59 (by decide +kernel) rfl, qa_ini 7 (by decide +kernel) rfl, qa_ini 1002 (by decide +kernel) rfl⟩, by decide +kernel⟩
theorem qy_Mo_raise : qa_yV y_Mo_raise b_Mo_raise 4 none 1 := ⟨⟨qa_ini 997 (by decide +kernel) rfl, qa_ins 58 (by decide +kernel) rfl, qa_ini 7 (by decide +kernel) rfl, qa_ini 998 (by decide +kernel) rfl⟩, by decide +kernel⟩
theorem qy_Mo_push : qa_yV y_Mo_push b_Mo_push 3 none 1 := ⟨⟨qa_ini 1017 (by decide +kernel) rfl, qa_ins 63 (by decide +kernel) rfl, qa_ini 7 (by decide +kernel) rfl, qa_ini 1018 (by decide +kernel) rfl⟩, by decide +kernel⟩
theorem qy_Mo_pop : qa_yV y_Mo_pop b_Mo_pop 2 (some .int) 0 := ⟨⟨qa_ini 1009 (by decide +kernel) rfl, qa_ins 61 (by decide +kernel) rfl, qa_ini 7 (by decide +kernel) rfl, qa_ini 1010 (by decide +kernel) rfl⟩, by decide +kernel⟩
theorem qy_Mo_print : qa_yV y_Mo_print b_Mo_print 2 none 1 := ⟨⟨qa_ini 1029 (by decide +kernel) rfl, qa_ins 66 (by decide +kernel) rfl, qa_ini 7 (by decide +kernel) rfl, qa_ini 1030 (by decide +kernel) rfl⟩, by decide +kernel⟩
theorem qy_Mo_create : qa_yV y_Mo_create b_Mo_create 3 none 1 := ⟨⟨qa_ini 1025 (by decide +kernel) rfl, qa_ins 65 (by decide +kernel) rfl, qa_ini 7 (by decide +kernel) rfl, qa_ini 1026 (by decide +kernel) rfl⟩, by decide +kernel⟩
theorem qy_Mo_trigger : qa_yV y_Mo_trigger b_Mo_trigger 5 (some .boolean) 1 := ⟨⟨qa_ini 993 (by decide +kernel) rfl, qa_ins 57 (by decide +kernel) rfl, qa_ini 7 (by decide +kernel) rfl, qa_ini 994 (by decide +kernel) rfl⟩, by decide +kernel⟩
theorem qy_Mo_plain : qa_yV y_Mo_plain b_Mo_plain 7 (some .int) 3 := ⟨⟨qa_ini 1021 (by decide +kernel) rfl, qa_ins 64 (by decide +kernel) rfl, qa_ini 7 (by decide +kernel) rfl, qa_ini 1022 (by decide +kernel) rfl⟩, by decide +kernel⟩
theorem qy_Mo_leave : qa_yV y_Mo_leave b_Mo_leave 4 none 1 := ⟨⟨qa_ini 1013 (by decide +kernel) rfl, qa_ins 62 (by decide +kernel) rfl, qa_ini 7 (by decide +kernel) rfl, qa_ini 1014 (by decide +kernel) rfl⟩, by decide +kernel⟩
theorem qy_Mo_call : qa_yV y_Mo_call b_Mo_call 9 none 3 := ⟨⟨qa_ini 1005 (by decide +kernel) rfl, qa_ins 60 (by decide +kernel) rfl, qa_ini 7 (by decide +kernel) rfl, qa_ini 1006 (by decide +kernel) rfl⟩, by decide +kernel⟩
theorem qy_Mo_begin : qa_yV y_Mo_begin b_Mo_begin 3 none 1 := ⟨⟨qa_ini 1033 (by decide +kernel) rfl, qa_ins 67 (by decide +kernel) rfl, qa_ini 7 (by decide +kernel) rfl, qa_ini 1034 (by decide +kernel) rfl⟩, by decide +kernel⟩
theorem qy_Mo_instruct : qa_yV y_Mo_instruct b_Mo_instruct 8 none 0 := ⟨⟨qa_ini 989 (by decide +kernel) rfl, qa_ins 56 (by decide +kernel) rfl, qa_ini 7 (by decide +kernel) rfl, qa_ini 990 (by decide +kernel) rfl⟩, by decide +kernel⟩
theorem lf_Pr_60 : Cond.fieldLink R_Pr 60 "ClosedWorld$Program" "typeCount" "I" ∈ qa_G := qa_ini 26 (by decide +kernel) rfl
theorem lf_Pr_15 : Cond.fieldLink R_Pr 15 "ClosedWorld$Program" "fieldCounts" "[I" ∈ qa_G := qa_ini 29 (by decide +kernel) rfl
theorem lm_Pr_56 : Cond.methodLink R_Pr 56 y_Pr_isType ∈ qa_G := qa_ini 215 (by decide +kernel) rfl
theorem lf_Pr_9 : Cond.fieldLink R_Pr 9 "ClosedWorld$Program" "kin" "[I" ∈ qa_G := qa_ini 28 (by decide +kernel) rfl
theorem lm_Pr_68 : Cond.methodLink R_Pr 68 y_Pr_kinOf ∈ qa_G := qa_ini 223 (by decide +kernel) rfl
theorem lm_Pr_64 : Cond.methodLink R_Pr 64 y_Pr_fieldsOf ∈ qa_G := qa_ini 219 (by decide +kernel) rfl
theorem lf_Pr_18 : Cond.fieldLink R_Pr 18 "ClosedWorld$Program" "initialisers" "[I" ∈ qa_G := qa_ini 30 (by decide +kernel) rfl
theorem lf_Pr_23 : Cond.fieldLink R_Pr 23 "ClosedWorld$Program" "ownMethods" "[[I" ∈ qa_G := qa_ini 31 (by decide +kernel) rfl
theorem lm_Pr_71 : Cond.methodLink R_Pr 71 y_Ar_fill ∈ qa_G := qa_ini 227 (by decide +kernel) rfl
theorem lf_Cw_41 : Cond.fieldLink R_Cw 41 "ClosedWorld" "closed" "Z" ∈ qa_G := qa_ini 192 (by decide +kernel) rfl
theorem lf_Cw_45 : Cond.fieldLink R_Cw 45 "ClosedWorld" "ran" "Z" ∈ qa_G := qa_ini 193 (by decide +kernel) rfl
theorem lm_Cw_64 : Cond.methodLink R_Cw 64 y_Cw_reopenIf ∈ qa_G := qa_ini 234 (by decide +kernel) rfl
theorem lf_Cw_17 : Cond.fieldLink R_Cw 17 "ClosedWorld" "program" "LClosedWorld$Program;" ∈ qa_G := qa_ini 188 (by decide +kernel) rfl
theorem lm_Cw_52 : Cond.methodLink R_Cw 52 y_Cw_reopenUnlessNone ∈ qa_G := qa_ini 230 (by decide +kernel) rfl
theorem lm_Cw_48 : Cond.methodLink R_Cw 48 y_Pr_addType ∈ qa_G := qa_ini 211 (by decide +kernel) rfl
theorem lf_Pr_77 : Cond.fieldLink R_Pr 77 "ClosedWorld$Program" "methodCount" "I" ∈ qa_G := qa_ini 27 (by decide +kernel) rfl
theorem lf_Pr_26 : Cond.fieldLink R_Pr 26 "ClosedWorld$Program" "owners" "[I" ∈ qa_G := qa_ini 32 (by decide +kernel) rfl
theorem lf_Pr_29 : Cond.fieldLink R_Pr 29 "ClosedWorld$Program" "selectors" "[I" ∈ qa_G := qa_ini 33 (by decide +kernel) rfl
theorem lf_Pr_32 : Cond.fieldLink R_Pr 32 "ClosedWorld$Program" "inputCounts" "[I" ∈ qa_G := qa_ini 34 (by decide +kernel) rfl
theorem lm_Cw_56 : Cond.methodLink R_Cw 56 y_Pr_addMethod ∈ qa_G := qa_ini 242 (by decide +kernel) rfl
theorem lm_Pr_87 : Cond.methodLink R_Pr 87 y_Pr_isMethod ∈ qa_G := qa_ini 261 (by decide +kernel) rfl
theorem lm_Pr_84 : Cond.methodLink R_Pr 84 y_Pr_isPlain ∈ qa_G := qa_ini 257 (by decide +kernel) rfl
theorem lm_Cw_60 : Cond.methodLink R_Cw 60 y_Pr_setInitialiser ∈ qa_G := qa_ini 253 (by decide +kernel) rfl
theorem lf_Pr_35 : Cond.fieldLink R_Pr 35 "ClosedWorld$Program" "lengths" "[I" ∈ qa_G := qa_ini 35 (by decide +kernel) rfl
theorem lf_Pr_38 : Cond.fieldLink R_Pr 38 "ClosedWorld$Program" "ops" "[[I" ∈ qa_G := qa_ini 36 (by decide +kernel) rfl
theorem lm_Pr_92 : Cond.methodLink R_Pr 92 y_Pr_operandFits ∈ qa_G := qa_ini 273 (by decide +kernel) rfl
theorem lf_Pr_41 : Cond.fieldLink R_Pr 41 "ClosedWorld$Program" "operands" "[[I" ∈ qa_G := qa_ini 37 (by decide +kernel) rfl
theorem lm_Cw_68 : Cond.methodLink R_Cw 68 y_Pr_addCode ∈ qa_G := qa_ini 269 (by decide +kernel) rfl
theorem lf_Pr_44 : Cond.fieldLink R_Pr 44 "ClosedWorld$Program" "guardCounts" "[I" ∈ qa_G := qa_ini 38 (by decide +kernel) rfl
theorem lf_Pr_47 : Cond.fieldLink R_Pr 47 "ClosedWorld$Program" "froms" "[[I" ∈ qa_G := qa_ini 39 (by decide +kernel) rfl
theorem lf_Pr_50 : Cond.fieldLink R_Pr 50 "ClosedWorld$Program" "ends" "[[I" ∈ qa_G := qa_ini 40 (by decide +kernel) rfl
theorem lf_Pr_53 : Cond.fieldLink R_Pr 53 "ClosedWorld$Program" "handlers" "[[I" ∈ qa_G := qa_ini 41 (by decide +kernel) rfl
theorem lm_Cw_71 : Cond.methodLink R_Cw 71 y_Pr_addGuard ∈ qa_G := qa_ini 281 (by decide +kernel) rfl
theorem lm_Ar_13 : Cond.methodLink R_Ar 13 y_Ar_rangeCheck ∈ qa_G := qa_ini 307 (by decide +kernel) rfl
theorem lf_Fr_9 : Cond.fieldLink R_Fr 9 "ClosedWorld$Frame" "places" "[I" ∈ qa_G := qa_ini 88 (by decide +kernel) rfl
theorem lf_Fr_21 : Cond.fieldLink R_Fr 21 "ClosedWorld$Frame" "size" "I" ∈ qa_G := qa_ini 89 (by decide +kernel) rfl
theorem lf_Fr_25 : Cond.fieldLink R_Fr 25 "ClosedWorld$Frame" "next" "I" ∈ qa_G := qa_ini 90 (by decide +kernel) rfl
theorem lm_Fr_15 : Cond.methodLink R_Fr 15 y_Ar_fill ∈ qa_G := qa_ini 318 (by decide +kernel) rfl
theorem lf_Ch_36 : Cond.fieldLink R_Ch 36 "ClosedWorld$Checker" "sound" "Z" ∈ qa_G := qa_ini 104 (by decide +kernel) rfl
theorem lf_Ch_25 : Cond.fieldLink R_Ch 25 "ClosedWorld$Checker" "program" "LClosedWorld$Program;" ∈ qa_G := qa_ini 98 (by decide +kernel) rfl
theorem lm_Ch_136 : Cond.methodLink R_Ch 136 y_Pr_nearestCommon ∈ qa_G := qa_ini 358 (by decide +kernel) rfl
theorem lf_Ch_29 : Cond.fieldLink R_Ch 29 "ClosedWorld$Checker" "method" "I" ∈ qa_G := qa_ini 102 (by decide +kernel) rfl
theorem lf_Ch_15 : Cond.fieldLink R_Ch 15 "ClosedWorld$Checker" "sizes" "[I" ∈ qa_G := qa_ini 100 (by decide +kernel) rfl
theorem lm_Ch_40 : Cond.methodLink R_Ch 40 y_Ch_rowOf ∈ qa_G := qa_ini 301 (by decide +kernel) rfl
theorem lm_Ch_120 : Cond.methodLink R_Ch 120 y_Pr_lengthOf ∈ qa_G := qa_ini 337 (by decide +kernel) rfl
theorem lf_Ch_21 : Cond.fieldLink R_Ch 21 "ClosedWorld$Checker" "frame" "LClosedWorld$Frame;" ∈ qa_G := qa_ini 101 (by decide +kernel) rfl
theorem lf_Ch_33 : Cond.fieldLink R_Ch 33 "ClosedWorld$Checker" "waiting" "I" ∈ qa_G := qa_ini 103 (by decide +kernel) rfl
theorem lm_Ch_123 : Cond.methodLink R_Ch 123 y_Fr_size ∈ qa_G := qa_ini 342 (by decide +kernel) rfl
theorem lm_Ch_126 : Cond.methodLink R_Ch 126 y_Ch_need ∈ qa_G := qa_ini 346 (by decide +kernel) rfl
theorem lf_Ch_9 : Cond.fieldLink R_Ch 9 "ClosedWorld$Checker" "types" "[I" ∈ qa_G := qa_ini 99 (by decide +kernel) rfl
theorem lm_Ch_133 : Cond.methodLink R_Ch 133 y_Ch_join ∈ qa_G := qa_ini 354 (by decide +kernel) rfl
theorem lm_Ch_130 : Cond.methodLink R_Ch 130 y_Fr_place ∈ qa_G := qa_ini 350 (by decide +kernel) rfl
theorem lm_Ch_74 : Cond.methodLink R_Ch 74 y_Fr_clear ∈ qa_G := qa_ini 314 (by decide +kernel) rfl
theorem lm_Ch_81 : Cond.methodLink R_Ch 81 y_Fr_setPlace ∈ qa_G := qa_ini 323 (by decide +kernel) rfl
theorem lm_Ch_88 : Cond.methodLink R_Ch 88 y_Pr_ownerOf ∈ qa_G := qa_ini 329 (by decide +kernel) rfl
theorem lm_Ch_85 : Cond.methodLink R_Ch 85 y_Pr_isPlain ∈ qa_G := qa_ini 328 (by decide +kernel) rfl
theorem lm_Ch_77 : Cond.methodLink R_Ch 77 y_Pr_inputsOf ∈ qa_G := qa_ini 319 (by decide +kernel) rfl
theorem lm_Ch_91 : Cond.methodLink R_Ch 91 y_Ch_arriveAt ∈ qa_G := qa_ini 333 (by decide +kernel) rfl
theorem lm_Ch_117 : Cond.methodLink R_Ch 117 y_Fr_setSize ∈ qa_G := qa_ini 382 (by decide +kernel) rfl
theorem lm_Fr_39 : Cond.methodLink R_Fr 39 y_Fr_push ∈ qa_G := qa_ini 390 (by decide +kernel) rfl
theorem lm_Pr_98 : Cond.methodLink R_Pr 98 y_Pr_lengthOf ∈ qa_G := qa_ini 398 (by decide +kernel) rfl
theorem lm_Ch_160 : Cond.methodLink R_Ch 160 y_Fr_push ∈ qa_G := qa_ini 411 (by decide +kernel) rfl
theorem lm_Ch_163 : Cond.methodLink R_Ch 163 y_Fr_pop ∈ qa_G := qa_ini 416 (by decide +kernel) rfl
theorem lm_Ch_142 : Cond.methodLink R_Ch 142 y_Ch_takeAny ∈ qa_G := qa_ini 412 (by decide +kernel) rfl
theorem lm_Ch_166 : Cond.methodLink R_Ch 166 y_Pr_isType ∈ qa_G := qa_ini 432 (by decide +kernel) rfl
theorem lm_Ch_154 : Cond.methodLink R_Ch 154 y_Pr_fieldsOf ∈ qa_G := qa_ini 433 (by decide +kernel) rfl
theorem lm_Ch_151 : Cond.methodLink R_Ch 151 y_Ch_takeObject ∈ qa_G := qa_ini 428 (by decide +kernel) rfl
theorem lm_Ch_145 : Cond.methodLink R_Ch 145 y_Ch_takeNumbers ∈ qa_G := qa_ini 420 (by decide +kernel) rfl
theorem lm_Ch_157 : Cond.methodLink R_Ch 157 y_Pr_answering ∈ qa_G := qa_ini 434 (by decide +kernel) rfl
theorem lm_Ch_139 : Cond.methodLink R_Ch 139 y_Ch_put ∈ qa_G := qa_ini 407 (by decide +kernel) rfl
theorem lm_Ch_148 : Cond.methodLink R_Ch 148 y_Ch_applyToObject ∈ qa_G := qa_ini 424 (by decide +kernel) rfl
theorem lm_Ch_103 : Cond.methodLink R_Ch 103 y_Fr_goOnWith ∈ qa_G := qa_ini 386 (by decide +kernel) rfl
theorem lm_Ch_100 : Cond.methodLink R_Ch 100 y_Ch_recall ∈ qa_G := qa_ini 378 (by decide +kernel) rfl
theorem lm_Ch_97 : Cond.methodLink R_Ch 97 y_Pr_handlerOf ∈ qa_G := qa_ini 374 (by decide +kernel) rfl
theorem lm_Ch_112 : Cond.methodLink R_Ch 112 y_Ch_apply ∈ qa_G := qa_ini 403 (by decide +kernel) rfl
theorem lm_Ch_109 : Cond.methodLink R_Ch 109 y_Pr_operandOf ∈ qa_G := qa_ini 399 (by decide +kernel) rfl
theorem lm_Ch_106 : Cond.methodLink R_Ch 106 y_Pr_opOf ∈ qa_G := qa_ini 394 (by decide +kernel) rfl
theorem lm_Ch_50 : Cond.methodLink R_Ch 50 y_Ch_enterStart ∈ qa_G := qa_ini 310 (by decide +kernel) rfl
theorem lm_Ch_44 : Cond.methodLink R_Ch 44 y_Ar_fill4 ∈ qa_G := qa_ini 304 (by decide +kernel) rfl
theorem lm_Ch_57 : Cond.methodLink R_Ch 57 y_Ch_visit ∈ qa_G := qa_ini 370 (by decide +kernel) rfl
theorem lm_Ch_53 : Cond.methodLink R_Ch 53 y_Ch_firstWaiting ∈ qa_G := qa_ini 365 (by decide +kernel) rfl
theorem lf_Re_9 : Cond.fieldLink R_Re 9 "ClosedWorld$Reach" "program" "LClosedWorld$Program;" ∈ qa_G := qa_ini 126 (by decide +kernel) rfl
theorem lf_Re_19 : Cond.fieldLink R_Re 19 "ClosedWorld$Reach" "liveSet" "I" ∈ qa_G := qa_ini 128 (by decide +kernel) rfl
theorem lm_Re_59 : Cond.methodLink R_Re 59 y_Pr_isOf ∈ qa_G := qa_ini 455 (by decide +kernel) rfl
theorem lm_Re_91 : Cond.methodLink R_Re 91 y_Pr_initialiserOf ∈ qa_G := qa_ini 451 (by decide +kernel) rfl
theorem lm_Re_82 : Cond.methodLink R_Re 82 y_Re_touch ∈ qa_G := qa_ini 447 (by decide +kernel) rfl
theorem lm_Re_88 : Cond.methodLink R_Re 88 y_Pr_ownerOf ∈ qa_G := qa_ini 446 (by decide +kernel) rfl
theorem lm_Re_33 : Cond.methodLink R_Re 33 y_Pr_isMethod ∈ qa_G := qa_ini 469 (by decide +kernel) rfl
theorem lm_Ch_61 : Cond.methodLink R_Ch 61 y_Pr_isMethod ∈ qa_G := qa_ini 475 (by decide +kernel) rfl
theorem lm_Ch_71 : Cond.methodLink R_Ch 71 y_Ch_isReached ∈ qa_G := qa_ini 490 (by decide +kernel) rfl
theorem lf_Re_15 : Cond.fieldLink R_Re 15 "ClosedWorld$Reach" "checker" "LClosedWorld$Checker;" ∈ qa_G := qa_ini 127 (by decide +kernel) rfl
theorem lm_Re_49 : Cond.methodLink R_Re 49 y_Pr_operandOf ∈ qa_G := qa_ini 480 (by decide +kernel) rfl
theorem lm_Re_43 : Cond.methodLink R_Re 43 y_Ch_receiverAt ∈ qa_G := qa_ini 486 (by decide +kernel) rfl
theorem lf_Re_23 : Cond.fieldLink R_Re 23 "ClosedWorld$Reach" "madeSet" "I" ∈ qa_G := qa_ini 129 (by decide +kernel) rfl
theorem lm_Re_56 : Cond.methodLink R_Re 56 y_Pr_answering ∈ qa_G := qa_ini 495 (by decide +kernel) rfl
theorem lm_Re_52 : Cond.methodLink R_Re 52 y_Pr_typeCount ∈ qa_G := qa_ini 491 (by decide +kernel) rfl
theorem lm_Re_26 : Cond.methodLink R_Re 26 y_Re_reachCall ∈ qa_G := qa_ini 442 (by decide +kernel) rfl
theorem lm_Re_85 : Cond.methodLink R_Re 85 y_Re_targetSet ∈ qa_G := qa_ini 482 (by decide +kernel) rfl
theorem lm_Re_79 : Cond.methodLink R_Re 79 y_Pr_opOf ∈ qa_G := qa_ini 481 (by decide +kernel) rfl
theorem lm_Re_62 : Cond.methodLink R_Re 62 y_Pr_methodCount ∈ qa_G := qa_ini 463 (by decide +kernel) rfl
theorem lm_Re_75 : Cond.methodLink R_Re 75 y_Re_follow ∈ qa_G := qa_ini 476 (by decide +kernel) rfl
theorem lm_Re_72 : Cond.methodLink R_Re 72 y_Ch_isReached ∈ qa_G := qa_ini 471 (by decide +kernel) rfl
theorem lm_Re_69 : Cond.methodLink R_Re 69 y_Re_isLive ∈ qa_G := qa_ini 465 (by decide +kernel) rfl
theorem lm_Re_65 : Cond.methodLink R_Re 65 y_Pr_lengthOf ∈ qa_G := qa_ini 464 (by decide +kernel) rfl
theorem lm_Re_30 : Cond.methodLink R_Re 30 y_Re_followLive ∈ qa_G := qa_ini 459 (by decide +kernel) rfl
theorem lm_Cw_75 : Cond.methodLink R_Cw 75 y_Pr_hasStart ∈ qa_G := qa_ini 289 (by decide +kernel) rfl
theorem lf_Cw_30 : Cond.fieldLink R_Cw 30 "ClosedWorld" "reach" "LClosedWorld$Reach;" ∈ qa_G := qa_ini 190 (by decide +kernel) rfl
theorem lm_Cw_87 : Cond.methodLink R_Cw 87 y_Re_find ∈ qa_G := qa_ini 438 (by decide +kernel) rfl
theorem lf_Cw_21 : Cond.fieldLink R_Cw 21 "ClosedWorld" "checker" "LClosedWorld$Checker;" ∈ qa_G := qa_ini 189 (by decide +kernel) rfl
theorem lm_Cw_83 : Cond.methodLink R_Cw 83 y_Ch_isSound ∈ qa_G := qa_ini 297 (by decide +kernel) rfl
theorem lm_Cw_79 : Cond.methodLink R_Cw 79 y_Pr_methodCount ∈ qa_G := qa_ini 293 (by decide +kernel) rfl
theorem lm_Cw_90 : Cond.methodLink R_Cw 90 y_Ch_typeOf ∈ qa_G := qa_ini 500 (by decide +kernel) rfl
theorem lm_Cw_93 : Cond.methodLink R_Cw 93 y_Pr_answering ∈ qa_G := qa_ini 508 (by decide +kernel) rfl
theorem lc_In_265 : Cond.constant R_In 265 1431655765 ∈ qa_G := qa_ini 520 (by decide +kernel) rfl
theorem lc_In_266 : Cond.constant R_In 266 858993459 ∈ qa_G := qa_ini 521 (by decide +kernel) rfl
theorem lc_In_267 : Cond.constant R_In 267 252645135 ∈ qa_G := qa_ini 522 (by decide +kernel) rfl
theorem lm_Pr_101 : Cond.methodLink R_Pr 101 y_In_bitCount ∈ qa_G := qa_ini 517 (by decide +kernel) rfl
theorem lm_Cw_96 : Cond.methodLink R_Cw 96 y_Pr_slotOf ∈ qa_G := qa_ini 513 (by decide +kernel) rfl
theorem lm_Cw_102 : Cond.methodLink R_Cw 102 y_Re_isLive ∈ qa_G := qa_ini 528 (by decide +kernel) rfl
theorem lm_Cw_99 : Cond.methodLink R_Cw 99 y_Pr_isMethod ∈ qa_G := qa_ini 527 (by decide +kernel) rfl
theorem lm_Cw_119 : Cond.methodLink R_Cw 119 y_In_bitCount ∈ qa_G := qa_ini 537 (by decide +kernel) rfl
theorem lm_Cw_116 : Cond.methodLink R_Cw 116 y_Re_targetSet ∈ qa_G := qa_ini 536 (by decide +kernel) rfl
theorem lm_Cw_111 : Cond.methodLink R_Cw 111 y_Pr_opOf ∈ qa_G := qa_ini 535 (by decide +kernel) rfl
theorem lm_Cw_108 : Cond.methodLink R_Cw 108 y_Ch_isReached ∈ qa_G := qa_ini 534 (by decide +kernel) rfl
theorem lm_Cw_105 : Cond.methodLink R_Cw 105 y_Cw_live ∈ qa_G := qa_ini 533 (by decide +kernel) rfl
theorem lf_Ma_80 : Cond.fieldLink R_Ma 80 "ClosedWorld$Machine" "value" "I" ∈ qa_G := qa_ini 160 (by decide +kernel) rfl
theorem lm_Fr_28 : Cond.methodLink R_Fr 28 y_Fr_clear ∈ qa_G := qa_ini 569 (by decide +kernel) rfl
theorem lm_Fr_35 : Cond.methodLink R_Fr 35 y_Fr_setPlace ∈ qa_G := qa_ini 571 (by decide +kernel) rfl
theorem lm_Fr_31 : Cond.methodLink R_Fr 31 y_Fr_pop ∈ qa_G := qa_ini 570 (by decide +kernel) rfl
theorem lm_Ma_63 : Cond.methodLink R_Ma 63 y_Fr_push ∈ qa_G := qa_ini 548 (by decide +kernel) rfl
theorem lm_Ma_87 : Cond.methodLink R_Ma 87 y_Ma_toss ∈ qa_G := qa_ini 560 (by decide +kernel) rfl
theorem lm_Ma_126 : Cond.methodLink R_Ma 126 y_Fr_pop ∈ qa_G := qa_ini 587 (by decide +kernel) rfl
theorem lf_Ma_51 : Cond.fieldLink R_Ma 51 "ClosedWorld$Machine" "printCount" "I" ∈ qa_G := qa_ini 157 (by decide +kernel) rfl
theorem lf_Ma_30 : Cond.fieldLink R_Ma 30 "ClosedWorld$Machine" "heldPrints" "[I" ∈ qa_G := qa_ini 154 (by decide +kernel) rfl
theorem lf_Ma_48 : Cond.fieldLink R_Ma 48 "ClosedWorld$Machine" "objectCount" "I" ∈ qa_G := qa_ini 156 (by decide +kernel) rfl
theorem lf_Ma_27 : Cond.fieldLink R_Ma 27 "ClosedWorld$Machine" "fields" "[I" ∈ qa_G := qa_ini 153 (by decide +kernel) rfl
theorem lm_Ma_161 : Cond.methodLink R_Ma 161 y_Ma_isNull ∈ qa_G := qa_ini 601 (by decide +kernel) rfl
theorem lf_Ma_33 : Cond.fieldLink R_Ma 33 "ClosedWorld$Machine" "program" "LClosedWorld$Program;" ∈ qa_G := qa_ini 148 (by decide +kernel) rfl
theorem lf_Ma_24 : Cond.fieldLink R_Ma 24 "ClosedWorld$Machine" "objectTypes" "[I" ∈ qa_G := qa_ini 152 (by decide +kernel) rfl
theorem lm_Ma_168 : Cond.methodLink R_Ma 168 y_Pr_isOf ∈ qa_G := qa_ini 554 (by decide +kernel) rfl
theorem lm_Ma_174 : Cond.methodLink R_Ma 174 y_Ar_fill4 ∈ qa_G := qa_ini 631 (by decide +kernel) rfl
theorem lf_Cw_37 : Cond.fieldLink R_Cw 37 "ClosedWorld" "machine" "LClosedWorld$Machine;" ∈ qa_G := qa_ini 191 (by decide +kernel) rfl
theorem lm_Cw_127 : Cond.methodLink R_Cw 127 y_Ma_finalValue ∈ qa_G := qa_ini 638 (by decide +kernel) rfl
theorem lf_Ma_54 : Cond.fieldLink R_Ma 54 "ClosedWorld$Machine" "stepCount" "I" ∈ qa_G := qa_ini 158 (by decide +kernel) rfl
theorem lm_Cw_130 : Cond.methodLink R_Cw 130 y_Ma_stepCount ∈ qa_G := qa_ini 646 (by decide +kernel) rfl
theorem lm_Cw_133 : Cond.methodLink R_Cw 133 y_Ma_printCount ∈ qa_G := qa_ini 654 (by decide +kernel) rfl
theorem lm_Cw_136 : Cond.methodLink R_Cw 136 y_Ma_printOf ∈ qa_G := qa_ini 662 (by decide +kernel) rfl
theorem lf_Ma_21 : Cond.fieldLink R_Ma 21 "ClosedWorld$Machine" "orders" "[I" ∈ qa_G := qa_ini 151 (by decide +kernel) rfl
theorem lm_Cw_142 : Cond.methodLink R_Cw 142 y_Ma_orderOf ∈ qa_G := qa_ini 671 (by decide +kernel) rfl
theorem lm_Cw_139 : Cond.methodLink R_Cw 139 y_Pr_isType ∈ qa_G := qa_ini 670 (by decide +kernel) rfl
theorem lm_Cw_145 : Cond.methodLink R_Cw 145 y_Ma_objectCount ∈ qa_G := qa_ini 679 (by decide +kernel) rfl
theorem lf_Ma_17 : Cond.fieldLink R_Ma 17 "ClosedWorld$Machine" "statics" "[I" ∈ qa_G := qa_ini 150 (by decide +kernel) rfl
theorem lm_Cw_148 : Cond.methodLink R_Cw 148 y_Ma_staticOf ∈ qa_G := qa_ini 687 (by decide +kernel) rfl
theorem lf_Ma_44 : Cond.fieldLink R_Ma 44 "ClosedWorld$Machine" "begunCount" "I" ∈ qa_G := qa_ini 155 (by decide +kernel) rfl
theorem lm_Ma_77 : Cond.methodLink R_Ma 77 y_Ma_perform ∈ qa_G := qa_ini 556 (by decide +kernel) rfl
theorem lm_Ma_171 : Cond.methodLink R_Ma 171 y_Pr_initialiserOf ∈ qa_G := qa_ini 555 (by decide +kernel) rfl
theorem lf_Ma_11 : Cond.fieldLink R_Ma 11 "ClosedWorld$Machine" "frames" "[LClosedWorld$Frame;" ∈ qa_G := qa_ini 149 (by decide +kernel) rfl
theorem lm_Ma_155 : Cond.methodLink R_Ma 155 y_Ma_receive ∈ qa_G := qa_ini 619 (by decide +kernel) rfl
theorem lm_Ma_165 : Cond.methodLink R_Ma 165 y_Pr_answering ∈ qa_G := qa_ini 618 (by decide +kernel) rfl
theorem lm_Ma_158 : Cond.methodLink R_Ma 158 y_Fr_second ∈ qa_G := qa_ini 614 (by decide +kernel) rfl
theorem lm_Ma_67 : Cond.methodLink R_Ma 67 y_Pr_ownerOf ∈ qa_G := qa_ini 549 (by decide +kernel) rfl
theorem lm_Ma_152 : Cond.methodLink R_Ma 152 y_Ma_makeObject ∈ qa_G := qa_ini 627 (by decide +kernel) rfl
theorem lm_Ma_73 : Cond.methodLink R_Ma 73 y_Ma_trigger ∈ qa_G := qa_ini 550 (by decide +kernel) rfl
theorem lm_Ma_123 : Cond.methodLink R_Ma 123 y_Fr_place ∈ qa_G := qa_ini 586 (by decide +kernel) rfl
theorem lm_Ma_129 : Cond.methodLink R_Ma 129 y_Fr_setPlace ∈ qa_G := qa_ini 588 (by decide +kernel) rfl
theorem lm_Ma_132 : Cond.methodLink R_Ma 132 y_Ma_calculate ∈ qa_G := qa_ini 589 (by decide +kernel) rfl
theorem lm_Ma_101 : Cond.methodLink R_Ma 101 y_Fr_setNext ∈ qa_G := qa_ini 576 (by decide +kernel) rfl
theorem lm_Ma_149 : Cond.methodLink R_Ma 149 y_Ma_executeTriggering ∈ qa_G := qa_ini 623 (by decide +kernel) rfl
theorem lm_Ma_139 : Cond.methodLink R_Ma 139 y_Ma_accessField ∈ qa_G := qa_ini 597 (by decide +kernel) rfl
theorem lm_Ma_146 : Cond.methodLink R_Ma 146 y_Ma_send ∈ qa_G := qa_ini 610 (by decide +kernel) rfl
theorem lm_Ma_143 : Cond.methodLink R_Ma 143 y_Ma_testType ∈ qa_G := qa_ini 606 (by decide +kernel) rfl
theorem lm_Ma_136 : Cond.methodLink R_Ma 136 y_Ma_print ∈ qa_G := qa_ini 593 (by decide +kernel) rfl
theorem lm_Ma_93 : Cond.methodLink R_Ma 93 y_Fr_beginFrom ∈ qa_G := qa_ini 565 (by decide +kernel) rfl
theorem lm_Ma_90 : Cond.methodLink R_Ma 90 y_Pr_inputsOf ∈ qa_G := qa_ini 564 (by decide +kernel) rfl
theorem lf_Ma_57 : Cond.fieldLink R_Ma 57 "ClosedWorld$Machine" "fuel" "I" ∈ qa_G := qa_ini 159 (by decide +kernel) rfl
theorem lm_Ma_110 : Cond.methodLink R_Ma 110 y_Ma_execute ∈ qa_G := qa_ini 582 (by decide +kernel) rfl
theorem lm_Ma_107 : Cond.methodLink R_Ma 107 y_Pr_operandOf ∈ qa_G := qa_ini 581 (by decide +kernel) rfl
theorem lm_Ma_104 : Cond.methodLink R_Ma 104 y_Pr_opOf ∈ qa_G := qa_ini 580 (by decide +kernel) rfl
theorem lm_Ma_97 : Cond.methodLink R_Ma 97 y_Fr_next ∈ qa_G := qa_ini 572 (by decide +kernel) rfl
theorem lm_Ma_119 : Cond.methodLink R_Ma 119 y_Fr_goOnWith ∈ qa_G := qa_ini 633 (by decide +kernel) rfl
theorem lm_Ma_116 : Cond.methodLink R_Ma 116 y_Pr_handlerOf ∈ qa_G := qa_ini 632 (by decide +kernel) rfl
theorem lm_Ma_38 : Cond.methodLink R_Ma 38 y_Ar_fill ∈ qa_G := qa_ini 546 (by decide +kernel) rfl
theorem lm_Ma_60 : Cond.methodLink R_Ma 60 y_Fr_clear ∈ qa_G := qa_ini 547 (by decide +kernel) rfl
theorem lm_Cw_124 : Cond.methodLink R_Cw 124 y_Ma_start ∈ qa_G := qa_ini 542 (by decide +kernel) rfl
theorem lf_Mo_13 : Cond.fieldLink R_Mo 13 "ClosedWorldModel" "fields" "[I" ∈ qa_G := qa_ini 699 (by decide +kernel) rfl
theorem lf_Mo_7 : Cond.fieldLink R_Mo 7 "ClosedWorldModel" "parent" "[I" ∈ qa_G := qa_ini 698 (by decide +kernel) rfl
theorem lf_Mo_107 : Cond.fieldLink R_Mo 107 "ClosedWorldModel" "closed" "Z" ∈ qa_G := qa_ini 712 (by decide +kernel) rfl
theorem lf_Mo_111 : Cond.fieldLink R_Mo 111 "ClosedWorldModel" "ran" "Z" ∈ qa_G := qa_ini 723 (by decide +kernel) rfl
theorem lf_Mo_114 : Cond.fieldLink R_Mo 114 "ClosedWorldModel" "classes" "I" ∈ qa_G := qa_ini 697 (by decide +kernel) rfl
theorem lm_Mo_122 : Cond.methodLink R_Mo 122 y_Mo_width ∈ qa_G := qa_ini 850 (by decide +kernel) rfl
theorem lm_Mo_118 : Cond.methodLink R_Mo 118 y_Mo_within ∈ qa_G := qa_ini 847 (by decide +kernel) rfl
theorem lf_Mo_16 : Cond.fieldLink R_Mo 16 "ClosedWorldModel" "first" "[I" ∈ qa_G := qa_ini 700 (by decide +kernel) rfl
theorem lm_Mo_126 : Cond.methodLink R_Mo 126 y_Mo_changed ∈ qa_G := qa_ini 854 (by decide +kernel) rfl
theorem lf_Mo_129 : Cond.fieldLink R_Mo 129 "ClosedWorldModel" "methods" "I" ∈ qa_G := qa_ini 701 (by decide +kernel) rfl
theorem lf_Mo_19 : Cond.fieldLink R_Mo 19 "ClosedWorldModel" "home" "[I" ∈ qa_G := qa_ini 702 (by decide +kernel) rfl
theorem lf_Mo_22 : Cond.fieldLink R_Mo 22 "ClosedWorldModel" "selector" "[I" ∈ qa_G := qa_ini 703 (by decide +kernel) rfl
theorem lm_Mo_132 : Cond.methodLink R_Mo 132 y_Mo_ownMethod ∈ qa_G := qa_ini 862 (by decide +kernel) rfl
theorem lf_Mo_25 : Cond.fieldLink R_Mo 25 "ClosedWorldModel" "wants" "[I" ∈ qa_G := qa_ini 704 (by decide +kernel) rfl
theorem lf_Mo_28 : Cond.fieldLink R_Mo 28 "ClosedWorldModel" "size" "[I" ∈ qa_G := qa_ini 705 (by decide +kernel) rfl
theorem lf_Mo_37 : Cond.fieldLink R_Mo 37 "ClosedWorldModel" "guards" "[I" ∈ qa_G := qa_ini 708 (by decide +kernel) rfl
theorem lf_Mo_31 : Cond.fieldLink R_Mo 31 "ClosedWorldModel" "ops" "[I" ∈ qa_G := qa_ini 706 (by decide +kernel) rfl
theorem lf_Mo_34 : Cond.fieldLink R_Mo 34 "ClosedWorldModel" "as" "[I" ∈ qa_G := qa_ini 707 (by decide +kernel) rfl
theorem lm_Mo_136 : Cond.methodLink R_Mo 136 y_Mo_fits ∈ qa_G := qa_ini 874 (by decide +kernel) rfl
theorem lf_Mo_40 : Cond.fieldLink R_Mo 40 "ClosedWorldModel" "from" "[I" ∈ qa_G := qa_ini 709 (by decide +kernel) rfl
theorem lf_Mo_43 : Cond.fieldLink R_Mo 43 "ClosedWorldModel" "to" "[I" ∈ qa_G := qa_ini 710 (by decide +kernel) rfl
theorem lf_Mo_46 : Cond.fieldLink R_Mo 46 "ClosedWorldModel" "handler" "[I" ∈ qa_G := qa_ini 711 (by decide +kernel) rfl
theorem lm_Mo_142 : Cond.methodLink R_Mo 142 y_Mo_isOf ∈ qa_G := qa_ini 898 (by decide +kernel) rfl
theorem lm_Mo_139 : Cond.methodLink R_Mo 139 y_Mo_maker ∈ qa_G := qa_ini 890 (by decide +kernel) rfl
theorem lm_Mo_145 : Cond.methodLink R_Mo 145 y_Mo_before ∈ qa_G := qa_ini 894 (by decide +kernel) rfl
theorem lf_Mo_49 : Cond.fieldLink R_Mo 49 "ClosedWorldModel" "reached" "[Z" ∈ qa_G := qa_ini 713 (by decide +kernel) rfl
theorem lf_Mo_53 : Cond.fieldLink R_Mo 53 "ClosedWorldModel" "high" "[I" ∈ qa_G := qa_ini 714 (by decide +kernel) rfl
theorem lf_Mo_151 : Cond.fieldLink R_Mo 151 "ClosedWorldModel" "n" "I" ∈ qa_G := qa_ini 717 (by decide +kernel) rfl
theorem lf_Mo_148 : Cond.fieldLink R_Mo 148 "ClosedWorldModel" "bad" "Z" ∈ qa_G := qa_ini 718 (by decide +kernel) rfl
theorem lf_Mo_59 : Cond.fieldLink R_Mo 59 "ClosedWorldModel" "now" "[I" ∈ qa_G := qa_ini 716 (by decide +kernel) rfl
theorem lf_Mo_56 : Cond.fieldLink R_Mo 56 "ClosedWorldModel" "types" "[I" ∈ qa_G := qa_ini 715 (by decide +kernel) rfl
theorem lm_Mo_154 : Cond.methodLink R_Mo 154 y_Mo_join ∈ qa_G := qa_ini 914 (by decide +kernel) rfl
theorem lf_Mo_157 : Cond.fieldLink R_Mo 157 "ClosedWorldModel" "more" "Z" ∈ qa_G := qa_ini 719 (by decide +kernel) rfl
theorem lm_Mo_174 : Cond.methodLink R_Mo 174 y_Mo_take ∈ qa_G := qa_ini 930 (by decide +kernel) rfl
theorem lm_Mo_177 : Cond.methodLink R_Mo 177 y_Mo_answer ∈ qa_G := qa_ini 934 (by decide +kernel) rfl
theorem lm_Mo_180 : Cond.methodLink R_Mo 180 y_Mo_give ∈ qa_G := qa_ini 935 (by decide +kernel) rfl
theorem lm_Mo_168 : Cond.methodLink R_Mo 168 y_Mo_arrive ∈ qa_G := qa_ini 910 (by decide +kernel) rfl
theorem lm_Mo_164 : Cond.methodLink R_Mo 164 y_Mo_effect ∈ qa_G := qa_ini 926 (by decide +kernel) rfl
theorem lm_Mo_160 : Cond.methodLink R_Mo 160 y_Mo_load ∈ qa_G := qa_ini 922 (by decide +kernel) rfl
theorem lm_Mo_171 : Cond.methodLink R_Mo 171 y_Mo_guarded ∈ qa_G := qa_ini 939 (by decide +kernel) rfl
theorem lm_Mo_183 : Cond.methodLink R_Mo 183 y_Mo_flow ∈ qa_G := qa_ini 918 (by decide +kernel) rfl
theorem lf_Mo_62 : Cond.fieldLink R_Mo 62 "ClosedWorldModel" "alive" "[Z" ∈ qa_G := qa_ini 720 (by decide +kernel) rfl
theorem lf_Mo_65 : Cond.fieldLink R_Mo 65 "ClosedWorldModel" "touched" "[Z" ∈ qa_G := qa_ini 721 (by decide +kernel) rfl
theorem lm_Mo_196 : Cond.methodLink R_Mo 196 y_Mo_enliven ∈ qa_G := qa_ini 951 (by decide +kernel) rfl
theorem lm_Mo_199 : Cond.methodLink R_Mo 199 y_Mo_receiver ∈ qa_G := qa_ini 963 (by decide +kernel) rfl
theorem lf_Mo_68 : Cond.fieldLink R_Mo 68 "ClosedWorldModel" "made" "[Z" ∈ qa_G := qa_ini 722 (by decide +kernel) rfl
theorem lm_Mo_202 : Cond.methodLink R_Mo 202 y_Mo_touch ∈ qa_G := qa_ini 947 (by decide +kernel) rfl
theorem lm_Mo_208 : Cond.methodLink R_Mo 208 y_Mo_target ∈ qa_G := qa_ini 959 (by decide +kernel) rfl
theorem lm_Mo_205 : Cond.methodLink R_Mo 205 y_Mo_reach ∈ qa_G := qa_ini 955 (by decide +kernel) rfl
theorem lm_Mo_190 : Cond.methodLink R_Mo 190 y_Mo_spread ∈ qa_G := qa_ini 943 (by decide +kernel) rfl
theorem lm_Mo_186 : Cond.methodLink R_Mo 186 y_Mo_sound ∈ qa_G := qa_ini 906 (by decide +kernel) rfl
theorem lm_Mo_193 : Cond.methodLink R_Mo 193 y_Mo_reachedAt ∈ qa_G := qa_ini 971 (by decide +kernel) rfl
theorem lf_Mo_226 : Cond.fieldLink R_Mo 226 "ClosedWorldModel" "frames" "I" ∈ qa_G := qa_ini 729 (by decide +kernel) rfl
theorem lf_Mo_214 : Cond.fieldLink R_Mo 214 "ClosedWorldModel" "outcome" "I" ∈ qa_G := qa_ini 725 (by decide +kernel) rfl
theorem lf_Mo_217 : Cond.fieldLink R_Mo 217 "ClosedWorldModel" "result" "I" ∈ qa_G := qa_ini 726 (by decide +kernel) rfl
theorem lf_Mo_71 : Cond.fieldLink R_Mo 71 "ClosedWorldModel" "method" "[I" ∈ qa_G := qa_ini 730 (by decide +kernel) rfl
theorem lf_Mo_74 : Cond.fieldLink R_Mo 74 "ClosedWorldModel" "pc" "[I" ∈ qa_G := qa_ini 731 (by decide +kernel) rfl
theorem lf_Mo_77 : Cond.fieldLink R_Mo 77 "ClosedWorldModel" "top" "[I" ∈ qa_G := qa_ini 732 (by decide +kernel) rfl
theorem lf_Mo_89 : Cond.fieldLink R_Mo 89 "ClosedWorldModel" "stack" "[I" ∈ qa_G := qa_ini 736 (by decide +kernel) rfl
theorem lf_Mo_83 : Cond.fieldLink R_Mo 83 "ClosedWorldModel" "again" "[Z" ∈ qa_G := qa_ini 734 (by decide +kernel) rfl
theorem lf_Mo_80 : Cond.fieldLink R_Mo 80 "ClosedWorldModel" "initial" "[Z" ∈ qa_G := qa_ini 733 (by decide +kernel) rfl
theorem lf_Mo_86 : Cond.fieldLink R_Mo 86 "ClosedWorldModel" "local" "[I" ∈ qa_G := qa_ini 735 (by decide +kernel) rfl
theorem lf_Mo_101 : Cond.fieldLink R_Mo 101 "ClosedWorldModel" "order" "[I" ∈ qa_G := qa_ini 741 (by decide +kernel) rfl
theorem lf_Mo_232 : Cond.fieldLink R_Mo 232 "ClosedWorldModel" "begins" "I" ∈ qa_G := qa_ini 742 (by decide +kernel) rfl
theorem lm_Mo_247 : Cond.methodLink R_Mo 247 y_Mo_enter ∈ qa_G := qa_ini 999 (by decide +kernel) rfl
theorem lm_Mo_251 : Cond.methodLink R_Mo 251 y_Mo_raise ∈ qa_G := qa_ini 995 (by decide +kernel) rfl
theorem lf_Mo_92 : Cond.fieldLink R_Mo 92 "ClosedWorldModel" "kind" "[I" ∈ qa_G := qa_ini 738 (by decide +kernel) rfl
theorem lf_Mo_211 : Cond.fieldLink R_Mo 211 "ClosedWorldModel" "started" "Z" ∈ qa_G := qa_ini 724 (by decide +kernel) rfl
theorem lm_Mo_269 : Cond.methodLink R_Mo 269 y_Mo_push ∈ qa_G := qa_ini 1015 (by decide +kernel) rfl
theorem lf_Mo_229 : Cond.fieldLink R_Mo 229 "ClosedWorldModel" "objects" "I" ∈ qa_G := qa_ini 737 (by decide +kernel) rfl
theorem lf_Mo_95 : Cond.fieldLink R_Mo 95 "ClosedWorldModel" "value" "[I" ∈ qa_G := qa_ini 739 (by decide +kernel) rfl
theorem lf_Mo_235 : Cond.fieldLink R_Mo 235 "ClosedWorldModel" "prints" "I" ∈ qa_G := qa_ini 743 (by decide +kernel) rfl
theorem lf_Mo_104 : Cond.fieldLink R_Mo 104 "ClosedWorldModel" "printed" "[I" ∈ qa_G := qa_ini 744 (by decide +kernel) rfl
theorem lm_Mo_258 : Cond.methodLink R_Mo 258 y_Mo_pop ∈ qa_G := qa_ini 1007 (by decide +kernel) rfl
theorem lm_Mo_275 : Cond.methodLink R_Mo 275 y_Mo_print ∈ qa_G := qa_ini 1027 (by decide +kernel) rfl
theorem lf_Mo_98 : Cond.fieldLink R_Mo 98 "ClosedWorldModel" "number" "[I" ∈ qa_G := qa_ini 740 (by decide +kernel) rfl
theorem lm_Mo_272 : Cond.methodLink R_Mo 272 y_Mo_create ∈ qa_G := qa_ini 1023 (by decide +kernel) rfl
theorem lf_Mo_220 : Cond.fieldLink R_Mo 220 "ClosedWorldModel" "steps" "I" ∈ qa_G := qa_ini 727 (by decide +kernel) rfl
theorem lf_Mo_223 : Cond.fieldLink R_Mo 223 "ClosedWorldModel" "fuel" "I" ∈ qa_G := qa_ini 728 (by decide +kernel) rfl
theorem lm_Mo_244 : Cond.methodLink R_Mo 244 y_Mo_trigger ∈ qa_G := qa_ini 991 (by decide +kernel) rfl
theorem lm_Mo_265 : Cond.methodLink R_Mo 265 y_Mo_plain ∈ qa_G := qa_ini 1019 (by decide +kernel) rfl
theorem lm_Mo_262 : Cond.methodLink R_Mo 262 y_Mo_leave ∈ qa_G := qa_ini 1011 (by decide +kernel) rfl
theorem lm_Mo_254 : Cond.methodLink R_Mo 254 y_Mo_call ∈ qa_G := qa_ini 1003 (by decide +kernel) rfl
theorem lm_Mo_241 : Cond.methodLink R_Mo 241 y_Mo_begin ∈ qa_G := qa_ini 1031 (by decide +kernel) rfl
theorem lm_Mo_238 : Cond.methodLink R_Mo 238 y_Mo_instruct ∈ qa_G := qa_ini 987 (by decide +kernel) rfl
theorem ln_Cw_11 : (R_Cw, 11, y_Pr_init, "ClosedWorld") ∈ qa_nw := List.mem_of_getElem? (i := 0) rfl
theorem ln_Ch_20 : (R_Ch, 20, y_Fr_init, "ClosedWorld") ∈ qa_nw := List.mem_of_getElem? (i := 1) rfl
theorem ln_Ma_37 : (R_Ma, 37, y_Fr_init, "ClosedWorld") ∈ qa_nw := List.mem_of_getElem? (i := 2) rfl
theorem ln_Pr_80 : (R_Pr, 80, y_Cw_within, "ClosedWorld") ∈ qa_nw := List.mem_of_getElem? (i := 3) rfl
theorem ln_Fr_43 : (R_Fr, 43, y_Cw_within, "ClosedWorld") ∈ qa_nw := List.mem_of_getElem? (i := 4) rfl
theorem ln_Ch_67 : (R_Ch, 67, y_Cw_within, "ClosedWorld") ∈ qa_nw := List.mem_of_getElem? (i := 5) rfl
theorem ln_Pr_95 : (R_Pr, 95, y_Cw_has, "ClosedWorld") ∈ qa_nw := List.mem_of_getElem? (i := 6) rfl
theorem ln_Ch_94 : (R_Ch, 94, y_Cw_has, "ClosedWorld") ∈ qa_nw := List.mem_of_getElem? (i := 7) rfl
theorem ln_Re_39 : (R_Re, 39, y_Cw_has, "ClosedWorld") ∈ qa_nw := List.mem_of_getElem? (i := 8) rfl
theorem ln_Ma_83 : (R_Ma, 83, y_Cw_within, "ClosedWorld") ∈ qa_nw := List.mem_of_getElem? (i := 9) rfl
end
section
def xe_len : List Nat := [0, 0, 6, 6, 6, 0, 4, 4, 4, 4, 4, 4, 10, 10, 10, 10, 0, 20, 20, 20, 20, 20, 20, 20, 20, 20, 20, 0, 20, 20, 20, 20, 20, 20, 20, 20, 20, 20, 10, 0, 3, 3, 3, 3, 3, 3, 3, 3, 3, 3, 0, 3, 3, 3, 3, 3, 3, 3, 3, 3, 3, 0, 3, 3, 3, 3, 3, 3, 3, 3, 3, 3, 0, 2000, 200, 0, 10, 0, 0, 0, 6, 6, 16, 96, 16, 0, 10, 0, 10, 0, 10, 0, 10, 0, 10, 0, 10, 0, 10, 0, 10, 0, 10, 0, 10, 0, 10]
def xe_ob (cJ cF : ClassId) (ad : Nat → Nat) (k : Nat) (w : Nat → Int32) : va_E := match k with
  | 0 => .inr (0, [.ref (ad 1), .ref (ad 72), .ref (ad 77), .ref (ad 78), .int (w 4), .int (w 5)])
  | 1 => .inr (1, [.int (w 0), .int (w 1), .ref (ad 2), .ref (ad 3), .ref (ad 4), .ref (ad 5), .ref (ad 12), .ref (ad 13), .ref (ad 14), .ref (ad 15), .ref (ad 16), .ref (ad 27), .ref (ad 38), .ref (ad 39), .ref (ad 50), .ref (ad 61)])
  | 5 => .inl (cJ, 6, .inr (.inr (.inr (.inr (fun i => some (ad (6 + i)))))))
  | 16 => .inl (cJ, 10, .inr (.inr (.inr (.inr (fun i => some (ad (17 + i)))))))
  | 27 => .inl (cJ, 10, .inr (.inr (.inr (.inr (fun i => some (ad (28 + i)))))))
  | 39 => .inl (cJ, 10, .inr (.inr (.inr (.inr (fun i => some (ad (40 + i)))))))
  | 50 => .inl (cJ, 10, .inr (.inr (.inr (.inr (fun i => some (ad (51 + i)))))))
  | 61 => .inl (cJ, 10, .inr (.inr (.inr (.inr (fun i => some (ad (62 + i)))))))
  | 72 => .inr (2, [.ref (ad 1), .ref (ad 73), .ref (ad 74), .ref (ad 75), .int (w 4), .int (w 5), .int (w 6)])
  | 77 => .inr (3, [.ref (ad 1), .ref (ad 72), .int (w 2), .int (w 3)])
  | 78 => .inr (4, [.ref (ad 1), .ref (ad 79), .ref (ad 80), .ref (ad 81), .ref (ad 82), .ref (ad 83), .ref (ad 84), .int (w 7), .int (w 8), .int (w 9), .int (w 10), .int (w 11), .int (w 12)])
  | 79 => .inl (cF, 11, .inr (.inr (.inr (.inr (fun i => some (ad (85 + 2 * i)))))))
  | _ => .inr (5, [.ref (ad (k + 1)), .int (w 1), .int (w 2)])
def xe_en (cI cJ cF : ClassId) (ad : Nat → Nat) (k : Nat) (w : Nat → Int32) : va_E := match xe_len.getD k 0 with
  | 0 => xe_ob cJ cF ad k w
  | n + 1 => .inl (cI, n + 1, .inl w)
theorem xe_arr {cI cJ cF : ClassId} {ad : Nat → Nat} {k n : Nat} (h : xe_len.getD k 0 = n + 1) : ∀ w : Nat → Int32, xe_en cI cJ cF ad k w = .inl (cI, n + 1, .inl w) := fun w => by
  simp only [xe_en, h]
def xe_F (r : Nat) : Prop := r = 75 ∨ ∃ j, j < 11 ∧ r = 85 + 2 * j
theorem xe_F75 : xe_F 75 := Or.inl rfl
theorem xe_Fof {i : Int32} (h : ¬ (i < 0 ∨ 11 ≤ i.toNatClampNeg)) : xe_F (85 + 2 * i.toNatClampNeg) := Or.inr ⟨_, qa_lt h, rfl⟩
theorem xe_Flt {r : Nat} (h : xe_F r) : r < 107 := by
  rcases h with rfl | ⟨j, hj, rfl⟩ <;> omega
theorem xe_Plt {r : Nat} (h : xe_F r) : r + 1 < 107 := by
  rcases h with rfl | ⟨j, hj, rfl⟩ <;> omega
theorem xe_Fin {r : Nat} (h : xe_F r) : r = 75 ∨ r = 85 ∨ r = 87 ∨ r = 89 ∨ r = 91 ∨ r = 93 ∨ r = 95 ∨ r = 97 ∨ r = 99 ∨ r = 101 ∨ r = 103 ∨ r = 105 := by
  rcases h with rfl | ⟨j, hj, rfl⟩ <;> omega
theorem xe_fr {cI cJ cF : ClassId} {ad : Nat → Nat} {r : Nat} (h : xe_F r) : ∀ w : Nat → Int32, xe_en cI cJ cF ad r w = .inr (5, [.ref (ad (r + 1)), .int (w 1), .int (w 2)]) := by
  intro w
  rcases xe_Fin h with rfl | rfl | rfl | rfl | rfl | rfl | rfl | rfl | rfl | rfl | rfl | rfl <;> rfl
theorem xe_pl {cI cJ cF : ClassId} {ad : Nat → Nat} {r : Nat} (h : xe_F r) : ∀ w : Nat → Int32, xe_en cI cJ cF ad (r + 1) w = .inl (cI, 10, .inl w) := by
  intro w
  rcases xe_Fin h with rfl | rfl | rfl | rfl | rfl | rfl | rfl | rfl | rfl | rfl | rfl | rfl <;> rfl
theorem xr_5 : ∀ i, i < 6 → xe_len.getD (6 + i) 0 = 4 := by decide
theorem xr_16 : ∀ i, i < 10 → xe_len.getD (17 + i) 0 = 20 := by decide
theorem xr_27 : ∀ i, i < 10 → xe_len.getD (28 + i) 0 = 20 := by decide
theorem xr_39 : ∀ i, i < 10 → xe_len.getD (40 + i) 0 = 3 := by decide
theorem xr_50 : ∀ i, i < 10 → xe_len.getD (51 + i) 0 = 3 := by decide
theorem xr_61 : ∀ i, i < 10 → xe_len.getD (62 + i) 0 = 3 := by decide
def me_len : List Nat := [0, 6, 6, 6, 10, 10, 10, 10, 200, 200, 10, 30, 30, 30, 0, 200, 2000, 10, 0, 0, 0, 10, 10, 10, 0, 0, 40, 60, 16, 96, 6, 6, 16]
def me_lez : List Nat := [0, 0, 0, 0, 0, 0, 0, 0, 0, 0, 0, 0, 0, 0, 200, 0, 0, 0, 10, 6, 6, 0, 0, 0, 10, 10, 0, 0, 0, 0, 0, 0, 0]
def me_en (cI cZ : ClassId) (ad : Nat → Nat) (k : Nat) (w : Nat → Int32) : va_E := match me_len.getD k 0 with
  | n + 1 => .inl (cI, n + 1, .inl w)
  | 0 => match me_lez.getD k 0 with
    | n + 1 => .inl (cZ, n + 1, .inl w)
    | 0 => .inr (6, [.int (w 0), .ref (ad 1), .ref (ad 2), .ref (ad 3), .int (w 4), .ref (ad 4), .ref (ad 5), .ref (ad 6), .ref (ad 7), .ref (ad 8), .ref (ad 9), .ref (ad 10), .ref (ad 11), .ref (ad 12), .ref (ad 13), .int (w 15), .ref (ad 14), .ref (ad 15), .ref (ad 16), .ref (ad 17), .int (w 20), .int (w 21), .int (w 22), .ref (ad 18), .ref (ad 19), .ref (ad 20), .int (w 26), .int (w 27), .int (w 28), .int (w 29), .int (w 30), .int (w 31), .int (w 32), .ref (ad 21), .ref (ad 22), .ref (ad 23), .ref (ad 24), .ref (ad 25), .ref (ad 26), .ref (ad 27), .int (w 40), .ref (ad 28), .ref (ad 29), .ref (ad 30), .ref (ad 31), .int (w 45), .int (w 46), .ref (ad 32)])
theorem me_arr {cI cZ : ClassId} {ad : Nat → Nat} {k n : Nat} (h : me_len.getD k 0 = n + 1) : ∀ w : Nat → Int32, me_en cI cZ ad k w = .inl (cI, n + 1, .inl w) := fun w => by
  simp only [me_en, h]
theorem me_zar {cI cZ : ClassId} {ad : Nat → Nat} {k n : Nat} (h : me_lez.getD k 0 = n + 1) (h0 : me_len.getD k 0 = 0 := by rfl) : ∀ w : Nat → Int32, me_en cI cZ ad k w = .inl (cZ, n + 1, .inl w) := fun w => by
  simp only [me_en, h0, h]
end
