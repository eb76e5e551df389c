section
-- ===== PART A: goes FIRST, ahead of the names: the tables' words, and 'selects' of the private methods out of them =====
/-- a private method of a class that the tables say can be made, by its rows of tables_1 -/
def lw_okq (q : MethodName × Nat) : Prop := (q.1.cls ≠ "java/lang/invoke/MethodHandle" ∧ q.1.cls ≠ "java/lang/invoke/VarHandle") ∧ Cond.instantiable q.1.cls q.2 ∈ tables_1 ∧ Cond.privateMethod q.1 ∈ tables_1 ∧ Cond.instanceMethod q.1 ∈ tables_1
theorem lw_p0 : lw_okq (⟨"MadeCalls$Shelf", "dropAt", "(I)V"⟩, 4) := ⟨⟨by decide +kernel, by decide +kernel⟩, List.mem_of_getElem? (i := 26) (by decide +kernel), List.mem_of_getElem? (i := 269) (by decide +kernel), List.mem_of_getElem? (i := 270) (by decide +kernel)⟩
theorem lw_p1 : lw_okq (⟨"MadeCalls$Made", "linkTargets", "()I"⟩, 6) := ⟨⟨by decide +kernel, by decide +kernel⟩, List.mem_of_getElem? (i := 39) (by decide +kernel), List.mem_of_getElem? (i := 317) (by decide +kernel), List.mem_of_getElem? (i := 318) (by decide +kernel)⟩
theorem lw_p2 : lw_okq (⟨"MadeCalls$Made", "indexOf", "(I)I"⟩, 6) := ⟨⟨by decide +kernel, by decide +kernel⟩, List.mem_of_getElem? (i := 39) (by decide +kernel), List.mem_of_getElem? (i := 324) (by decide +kernel), List.mem_of_getElem? (i := 325) (by decide +kernel)⟩
theorem lw_p3 : lw_okq (⟨"MadeCalls", "refusalOf", "(II)I"⟩, 7) := ⟨⟨by decide +kernel, by decide +kernel⟩, List.mem_of_getElem? (i := 18) (by decide +kernel), List.mem_of_getElem? (i := 348) (by decide +kernel), List.mem_of_getElem? (i := 349) (by decide +kernel)⟩
theorem lw_p4 : lw_okq (⟨"MadeCalls$Runner", "enter", "(II)V"⟩, 16) := ⟨⟨by decide +kernel, by decide +kernel⟩, List.mem_of_getElem? (i := 100) (by decide +kernel), List.mem_of_getElem? (i := 360) (by decide +kernel), List.mem_of_getElem? (i := 361) (by decide +kernel)⟩
theorem lw_p5 : lw_okq (⟨"MadeCalls$Runner", "valueOfBuiltIn", "(II)I"⟩, 16) := ⟨⟨by decide +kernel, by decide +kernel⟩, List.mem_of_getElem? (i := 100) (by decide +kernel), List.mem_of_getElem? (i := 364) (by decide +kernel), List.mem_of_getElem? (i := 365) (by decide +kernel)⟩
theorem lw_p6 : lw_okq (⟨"MadeCalls$Runner", "spendStep", "()Z"⟩, 16) := ⟨⟨by decide +kernel, by decide +kernel⟩, List.mem_of_getElem? (i := 100) (by decide +kernel), List.mem_of_getElem? (i := 368) (by decide +kernel), List.mem_of_getElem? (i := 369) (by decide +kernel)⟩
theorem lw_p7 : lw_okq (⟨"MadeCalls$Runner", "fail", "(I)V"⟩, 16) := ⟨⟨by decide +kernel, by decide +kernel⟩, List.mem_of_getElem? (i := 100) (by decide +kernel), List.mem_of_getElem? (i := 372) (by decide +kernel), List.mem_of_getElem? (i := 373) (by decide +kernel)⟩
theorem lw_p8 : lw_okq (⟨"MadeCalls$Runner", "sumOfHanded", "(I)I"⟩, 16) := ⟨⟨by decide +kernel, by decide +kernel⟩, List.mem_of_getElem? (i := 100) (by decide +kernel), List.mem_of_getElem? (i := 376) (by decide +kernel), List.mem_of_getElem? (i := 377) (by decide +kernel)⟩
theorem lw_p9 : lw_okq (⟨"MadeCalls$Runner", "greatestOfHanded", "(I)I"⟩, 16) := ⟨⟨by decide +kernel, by decide +kernel⟩, List.mem_of_getElem? (i := 100) (by decide +kernel), List.mem_of_getElem? (i := 380) (by decide +kernel), List.mem_of_getElem? (i := 381) (by decide +kernel)⟩
theorem lw_p10 : lw_okq (⟨"MadeCalls$Runner", "handedNotZero", "(I)I"⟩, 16) := ⟨⟨by decide +kernel, by decide +kernel⟩, List.mem_of_getElem? (i := 100) (by decide +kernel), List.mem_of_getElem? (i := 385) (by decide +kernel), List.mem_of_getElem? (i := 386) (by decide +kernel)⟩
theorem lw_p11 : lw_okq (⟨"MadeCalls$Runner", "byteAtFirstHanded", "(I)I"⟩, 16) := ⟨⟨by decide +kernel, by decide +kernel⟩, List.mem_of_getElem? (i := 100) (by decide +kernel), List.mem_of_getElem? (i := 389) (by decide +kernel), List.mem_of_getElem? (i := 390) (by decide +kernel)⟩
theorem lw_p12 : lw_okq (⟨"MadeCalls$Runner", "give", "(I)V"⟩, 16) := ⟨⟨by decide +kernel, by decide +kernel⟩, List.mem_of_getElem? (i := 100) (by decide +kernel), List.mem_of_getElem? (i := 394) (by decide +kernel), List.mem_of_getElem? (i := 395) (by decide +kernel)⟩
theorem lw_p13 : lw_okq (⟨"MadeCalls$Runner", "set", "(LMadeCalls$Frame;II)V"⟩, 16) := ⟨⟨by decide +kernel, by decide +kernel⟩, List.mem_of_getElem? (i := 100) (by decide +kernel), List.mem_of_getElem? (i := 398) (by decide +kernel), List.mem_of_getElem? (i := 399) (by decide +kernel)⟩
theorem lw_p14 : lw_okq (⟨"MadeCalls$Runner", "fetch", "(LMadeCalls$Frame;)Z"⟩, 16) := ⟨⟨by decide +kernel, by decide +kernel⟩, List.mem_of_getElem? (i := 100) (by decide +kernel), List.mem_of_getElem? (i := 411) (by decide +kernel), List.mem_of_getElem? (i := 412) (by decide +kernel)⟩
theorem lw_p15 : lw_okq (⟨"MadeCalls$Runner", "carryOut", "(LMadeCalls$Frame;)V"⟩, 16) := ⟨⟨by decide +kernel, by decide +kernel⟩, List.mem_of_getElem? (i := 100) (by decide +kernel), List.mem_of_getElem? (i := 420) (by decide +kernel), List.mem_of_getElem? (i := 421) (by decide +kernel)⟩
def lw_privs_1 : List (MethodName × Nat) := [(⟨"MadeCalls$Shelf", "dropAt", "(I)V"⟩, 4), (⟨"MadeCalls$Made", "linkTargets", "()I"⟩, 6), (⟨"MadeCalls$Made", "indexOf", "(I)I"⟩, 6), (⟨"MadeCalls", "refusalOf", "(II)I"⟩, 7), (⟨"MadeCalls$Runner", "enter", "(II)V"⟩, 16), (⟨"MadeCalls$Runner", "valueOfBuiltIn", "(II)I"⟩, 16), (⟨"MadeCalls$Runner", "spendStep", "()Z"⟩, 16), (⟨"MadeCalls$Runner", "fail", "(I)V"⟩, 16), (⟨"MadeCalls$Runner", "sumOfHanded", "(I)I"⟩, 16), (⟨"MadeCalls$Runner", "greatestOfHanded", "(I)I"⟩, 16), (⟨"MadeCalls$Runner", "handedNotZero", "(I)I"⟩, 16), (⟨"MadeCalls$Runner", "byteAtFirstHanded", "(I)I"⟩, 16), (⟨"MadeCalls$Runner", "give", "(I)V"⟩, 16), (⟨"MadeCalls$Runner", "set", "(LMadeCalls$Frame;II)V"⟩, 16), (⟨"MadeCalls$Runner", "fetch", "(LMadeCalls$Frame;)Z"⟩, 16), (⟨"MadeCalls$Runner", "carryOut", "(LMadeCalls$Frame;)V"⟩, 16)]
theorem lw_r1 : ∀ q ∈ lw_privs_1, lw_okq q := List.forall_mem_cons.mpr ⟨lw_p0, List.forall_mem_cons.mpr ⟨lw_p1, List.forall_mem_cons.mpr ⟨lw_p2, List.forall_mem_cons.mpr ⟨lw_p3, List.forall_mem_cons.mpr ⟨lw_p4, List.forall_mem_cons.mpr ⟨lw_p5, List.forall_mem_cons.mpr ⟨lw_p6, List.forall_mem_cons.mpr ⟨lw_p7, List.forall_mem_cons.mpr ⟨lw_p8, List.forall_mem_cons.mpr ⟨lw_p9, List.forall_mem_cons.mpr ⟨lw_p10, List.forall_mem_cons.mpr ⟨lw_p11, List.forall_mem_cons.mpr ⟨lw_p12, List.forall_mem_cons.mpr ⟨lw_p13, List.forall_mem_cons.mpr ⟨lw_p14, List.forall_mem_cons.mpr ⟨lw_p15, fun _ h => absurd h List.not_mem_nil⟩⟩⟩⟩⟩⟩⟩⟩⟩⟩⟩⟩⟩⟩⟩⟩
theorem lw_p16 : lw_okq (⟨"MadeCalls$Runner", "valueOf", "(LMadeCalls$Frame;I)I"⟩, 16) := ⟨⟨by decide +kernel, by decide +kernel⟩, List.mem_of_getElem? (i := 100) (by decide +kernel), List.mem_of_getElem? (i := 424) (by decide +kernel), List.mem_of_getElem? (i := 425) (by decide +kernel)⟩
theorem lw_p17 : lw_okq (⟨"MadeCalls$Runner", "leave", "(I)V"⟩, 16) := ⟨⟨by decide +kernel, by decide +kernel⟩, List.mem_of_getElem? (i := 100) (by decide +kernel), List.mem_of_getElem? (i := 428) (by decide +kernel), List.mem_of_getElem? (i := 429) (by decide +kernel)⟩
theorem lw_p18 : lw_okq (⟨"MadeCalls$Runner", "load", "(LMadeCalls$Frame;II)V"⟩, 16) := ⟨⟨by decide +kernel, by decide +kernel⟩, List.mem_of_getElem? (i := 100) (by decide +kernel), List.mem_of_getElem? (i := 432) (by decide +kernel), List.mem_of_getElem? (i := 433) (by decide +kernel)⟩
theorem lw_p19 : lw_okq (⟨"MadeCalls$Runner", "store", "(II)V"⟩, 16) := ⟨⟨by decide +kernel, by decide +kernel⟩, List.mem_of_getElem? (i := 100) (by decide +kernel), List.mem_of_getElem? (i := 436) (by decide +kernel), List.mem_of_getElem? (i := 437) (by decide +kernel)⟩
theorem lw_p20 : lw_okq (⟨"MadeCalls$Runner", "jump", "(LMadeCalls$Frame;I)V"⟩, 16) := ⟨⟨by decide +kernel, by decide +kernel⟩, List.mem_of_getElem? (i := 100) (by decide +kernel), List.mem_of_getElem? (i := 441) (by decide +kernel), List.mem_of_getElem? (i := 442) (by decide +kernel)⟩
theorem lw_p21 : lw_okq (⟨"MadeCalls$Runner", "handOver", "(LMadeCalls$Frame;)V"⟩, 16) := ⟨⟨by decide +kernel, by decide +kernel⟩, List.mem_of_getElem? (i := 100) (by decide +kernel), List.mem_of_getElem? (i := 445) (by decide +kernel), List.mem_of_getElem? (i := 446) (by decide +kernel)⟩
theorem lw_p22 : lw_okq (⟨"MadeCalls$Runner", "throwOut", "(I)V"⟩, 16) := ⟨⟨by decide +kernel, by decide +kernel⟩, List.mem_of_getElem? (i := 100) (by decide +kernel), List.mem_of_getElem? (i := 452) (by decide +kernel), List.mem_of_getElem? (i := 453) (by decide +kernel)⟩
theorem lw_p23 : lw_okq (⟨"MadeCalls$Runner", "reckon", "(LMadeCalls$Frame;II)V"⟩, 16) := ⟨⟨by decide +kernel, by decide +kernel⟩, List.mem_of_getElem? (i := 100) (by decide +kernel), List.mem_of_getElem? (i := 456) (by decide +kernel), List.mem_of_getElem? (i := 457) (by decide +kernel)⟩
theorem lw_p24 : lw_okq (⟨"java/lang/Throwable", "fillInStackTrace", "(I)Ljava/lang/Throwable;"⟩, 6) := ⟨⟨by decide +kernel, by decide +kernel⟩, List.mem_of_getElem? (i := 527) (by decide +kernel), List.mem_of_getElem? (i := 525) (by decide +kernel), List.mem_of_getElem? (i := 526) (by decide +kernel)⟩
theorem lw_p25 : lw_okq (⟨"MadeCallsModel", "isPlace", "(I)Z"⟩, 47) := ⟨⟨by decide +kernel, by decide +kernel⟩, List.mem_of_getElem? (i := 596) (by decide +kernel), List.mem_of_getElem? (i := 752) (by decide +kernel), List.mem_of_getElem? (i := 753) (by decide +kernel)⟩
theorem lw_p26 : lw_okq (⟨"MadeCallsModel", "write", "(II)I"⟩, 47) := ⟨⟨by decide +kernel, by decide +kernel⟩, List.mem_of_getElem? (i := 596) (by decide +kernel), List.mem_of_getElem? (i := 756) (by decide +kernel), List.mem_of_getElem? (i := 757) (by decide +kernel)⟩
theorem lw_p27 : lw_okq (⟨"MadeCallsModel", "dropPage", "(I)I"⟩, 47) := ⟨⟨by decide +kernel, by decide +kernel⟩, List.mem_of_getElem? (i := 596) (by decide +kernel), List.mem_of_getElem? (i := 760) (by decide +kernel), List.mem_of_getElem? (i := 761) (by decide +kernel)⟩
theorem lw_p28 : lw_okq (⟨"MadeCallsModel", "away", "(I)V"⟩, 47) := ⟨⟨by decide +kernel, by decide +kernel⟩, List.mem_of_getElem? (i := 596) (by decide +kernel), List.mem_of_getElem? (i := 764) (by decide +kernel), List.mem_of_getElem? (i := 765) (by decide +kernel)⟩
theorem lw_p29 : lw_okq (⟨"MadeCallsModel", "failsAt", "(I)I"⟩, 47) := ⟨⟨by decide +kernel, by decide +kernel⟩, List.mem_of_getElem? (i := 596) (by decide +kernel), List.mem_of_getElem? (i := 788) (by decide +kernel), List.mem_of_getElem? (i := 789) (by decide +kernel)⟩
theorem lw_p30 : lw_okq (⟨"MadeCallsModel", "readAt", "(II)V"⟩, 47) := ⟨⟨by decide +kernel, by decide +kernel⟩, List.mem_of_getElem? (i := 596) (by decide +kernel), List.mem_of_getElem? (i := 792) (by decide +kernel), List.mem_of_getElem? (i := 793) (by decide +kernel)⟩
theorem lw_p31 : lw_okq (⟨"MadeCallsModel", "nextByte", "()I"⟩, 47) := ⟨⟨by decide +kernel, by decide +kernel⟩, List.mem_of_getElem? (i := 596) (by decide +kernel), List.mem_of_getElem? (i := 796) (by decide +kernel), List.mem_of_getElem? (i := 797) (by decide +kernel)⟩
def lw_privs_2 : List (MethodName × Nat) := [(⟨"MadeCalls$Runner", "valueOf", "(LMadeCalls$Frame;I)I"⟩, 16), (⟨"MadeCalls$Runner", "leave", "(I)V"⟩, 16), (⟨"MadeCalls$Runner", "load", "(LMadeCalls$Frame;II)V"⟩, 16), (⟨"MadeCalls$Runner", "store", "(II)V"⟩, 16), (⟨"MadeCalls$Runner", "jump", "(LMadeCalls$Frame;I)V"⟩, 16), (⟨"MadeCalls$Runner", "handOver", "(LMadeCalls$Frame;)V"⟩, 16), (⟨"MadeCalls$Runner", "throwOut", "(I)V"⟩, 16), (⟨"MadeCalls$Runner", "reckon", "(LMadeCalls$Frame;II)V"⟩, 16), (⟨"java/lang/Throwable", "fillInStackTrace", "(I)Ljava/lang/Throwable;"⟩, 6), (⟨"MadeCallsModel", "isPlace", "(I)Z"⟩, 47), (⟨"MadeCallsModel", "write", "(II)I"⟩, 47), (⟨"MadeCallsModel", "dropPage", "(I)I"⟩, 47), (⟨"MadeCallsModel", "away", "(I)V"⟩, 47), (⟨"MadeCallsModel", "failsAt", "(I)I"⟩, 47), (⟨"MadeCallsModel", "readAt", "(II)V"⟩, 47), (⟨"MadeCallsModel", "nextByte", "()I"⟩, 47)]
theorem lw_r2 : ∀ q ∈ lw_privs_2, lw_okq q := List.forall_mem_cons.mpr ⟨lw_p16, List.forall_mem_cons.mpr ⟨lw_p17, List.forall_mem_cons.mpr ⟨lw_p18, List.forall_mem_cons.mpr ⟨lw_p19, List.forall_mem_cons.mpr ⟨lw_p20, List.forall_mem_cons.mpr ⟨lw_p21, List.forall_mem_cons.mpr ⟨lw_p22, List.forall_mem_cons.mpr ⟨lw_p23, List.forall_mem_cons.mpr ⟨lw_p24, List.forall_mem_cons.mpr ⟨lw_p25, List.forall_mem_cons.mpr ⟨lw_p26, List.forall_mem_cons.mpr ⟨lw_p27, List.forall_mem_cons.mpr ⟨lw_p28, List.forall_mem_cons.mpr ⟨lw_p29, List.forall_mem_cons.mpr ⟨lw_p30, List.forall_mem_cons.mpr ⟨lw_p31, fun _ h => absurd h List.not_mem_nil⟩⟩⟩⟩⟩⟩⟩⟩⟩⟩⟩⟩⟩⟩⟩⟩
theorem lw_p32 : lw_okq (⟨"MadeCallsModel", "bad", "(Z)V"⟩, 47) := ⟨⟨by decide +kernel, by decide +kernel⟩, List.mem_of_getElem? (i := 596) (by decide +kernel), List.mem_of_getElem? (i := 800) (by decide +kernel), List.mem_of_getElem? (i := 801) (by decide +kernel)⟩
theorem lw_p33 : lw_okq (⟨"MadeCallsModel", "operandOf", "(I)V"⟩, 47) := ⟨⟨by decide +kernel, by decide +kernel⟩, List.mem_of_getElem? (i := 596) (by decide +kernel), List.mem_of_getElem? (i := 804) (by decide +kernel), List.mem_of_getElem? (i := 805) (by decide +kernel)⟩
theorem lw_p34 : lw_okq (⟨"MadeCallsModel", "isCell", "(I)Z"⟩, 47) := ⟨⟨by decide +kernel, by decide +kernel⟩, List.mem_of_getElem? (i := 596) (by decide +kernel), List.mem_of_getElem? (i := 808) (by decide +kernel), List.mem_of_getElem? (i := 809) (by decide +kernel)⟩
theorem lw_p35 : lw_okq (⟨"MadeCallsModel", "keptOf", "(I)I"⟩, 47) := ⟨⟨by decide +kernel, by decide +kernel⟩, List.mem_of_getElem? (i := 596) (by decide +kernel), List.mem_of_getElem? (i := 812) (by decide +kernel), List.mem_of_getElem? (i := 813) (by decide +kernel)⟩
theorem lw_p36 : lw_okq (⟨"MadeCallsModel", "goes", "(IIZ)I"⟩, 47) := ⟨⟨by decide +kernel, by decide +kernel⟩, List.mem_of_getElem? (i := 596) (by decide +kernel), List.mem_of_getElem? (i := 828) (by decide +kernel), List.mem_of_getElem? (i := 829) (by decide +kernel)⟩
theorem lw_p37 : lw_okq (⟨"MadeCallsModel", "go", "(II)V"⟩, 47) := ⟨⟨by decide +kernel, by decide +kernel⟩, List.mem_of_getElem? (i := 596) (by decide +kernel), List.mem_of_getElem? (i := 832) (by decide +kernel), List.mem_of_getElem? (i := 833) (by decide +kernel)⟩
theorem lw_p38 : lw_okq (⟨"MadeCallsModel", "step", "()Z"⟩, 47) := ⟨⟨by decide +kernel, by decide +kernel⟩, List.mem_of_getElem? (i := 596) (by decide +kernel), List.mem_of_getElem? (i := 836) (by decide +kernel), List.mem_of_getElem? (i := 837) (by decide +kernel)⟩
theorem lw_p39 : lw_okq (⟨"MadeCallsModel", "fails", "(I)V"⟩, 47) := ⟨⟨by decide +kernel, by decide +kernel⟩, List.mem_of_getElem? (i := 596) (by decide +kernel), List.mem_of_getElem? (i := 840) (by decide +kernel), List.mem_of_getElem? (i := 841) (by decide +kernel)⟩
theorem lw_p40 : lw_okq (⟨"MadeCallsModel", "builtIn", "(I)I"⟩, 47) := ⟨⟨by decide +kernel, by decide +kernel⟩, List.mem_of_getElem? (i := 596) (by decide +kernel), List.mem_of_getElem? (i := 844) (by decide +kernel), List.mem_of_getElem? (i := 845) (by decide +kernel)⟩
theorem lw_p41 : lw_okq (⟨"MadeCallsModel", "becomes", "(II)V"⟩, 47) := ⟨⟨by decide +kernel, by decide +kernel⟩, List.mem_of_getElem? (i := 596) (by decide +kernel), List.mem_of_getElem? (i := 848) (by decide +kernel), List.mem_of_getElem? (i := 849) (by decide +kernel)⟩
theorem lw_p42 : lw_okq (⟨"MadeCallsModel", "one", "()V"⟩, 47) := ⟨⟨by decide +kernel, by decide +kernel⟩, List.mem_of_getElem? (i := 596) (by decide +kernel), List.mem_of_getElem? (i := 852) (by decide +kernel), List.mem_of_getElem? (i := 853) (by decide +kernel)⟩
theorem lw_p43 : lw_okq (⟨"MadeCallsModel", "isMade", "()Z"⟩, 47) := ⟨⟨by decide +kernel, by decide +kernel⟩, List.mem_of_getElem? (i := 596) (by decide +kernel), List.mem_of_getElem? (i := 856) (by decide +kernel), List.mem_of_getElem? (i := 857) (by decide +kernel)⟩
theorem lw_p44 : lw_okq (⟨"MadeCallsModel", "doIt", "()V"⟩, 47) := ⟨⟨by decide +kernel, by decide +kernel⟩, List.mem_of_getElem? (i := 596) (by decide +kernel), List.mem_of_getElem? (i := 860) (by decide +kernel), List.mem_of_getElem? (i := 861) (by decide +kernel)⟩
theorem lw_p45 : lw_okq (⟨"MadeCallsModel", "valueOf", "(I)I"⟩, 47) := ⟨⟨by decide +kernel, by decide +kernel⟩, List.mem_of_getElem? (i := 596) (by decide +kernel), List.mem_of_getElem? (i := 864) (by decide +kernel), List.mem_of_getElem? (i := 865) (by decide +kernel)⟩
theorem lw_p46 : lw_okq (⟨"MadeCallsModel", "ends", "(I)V"⟩, 47) := ⟨⟨by decide +kernel, by decide +kernel⟩, List.mem_of_getElem? (i := 596) (by decide +kernel), List.mem_of_getElem? (i := 868) (by decide +kernel), List.mem_of_getElem? (i := 869) (by decide +kernel)⟩
theorem lw_p47 : lw_okq (⟨"MadeCallsModel", "jump", "(ZI)V"⟩, 47) := ⟨⟨by decide +kernel, by decide +kernel⟩, List.mem_of_getElem? (i := 596) (by decide +kernel), List.mem_of_getElem? (i := 872) (by decide +kernel), List.mem_of_getElem? (i := 873) (by decide +kernel)⟩
def lw_privs_3 : List (MethodName × Nat) := [(⟨"MadeCallsModel", "bad", "(Z)V"⟩, 47), (⟨"MadeCallsModel", "operandOf", "(I)V"⟩, 47), (⟨"MadeCallsModel", "isCell", "(I)Z"⟩, 47), (⟨"MadeCallsModel", "keptOf", "(I)I"⟩, 47), (⟨"MadeCallsModel", "goes", "(IIZ)I"⟩, 47), (⟨"MadeCallsModel", "go", "(II)V"⟩, 47), (⟨"MadeCallsModel", "step", "()Z"⟩, 47), (⟨"MadeCallsModel", "fails", "(I)V"⟩, 47), (⟨"MadeCallsModel", "builtIn", "(I)I"⟩, 47), (⟨"MadeCallsModel", "becomes", "(II)V"⟩, 47), (⟨"MadeCallsModel", "one", "()V"⟩, 47), (⟨"MadeCallsModel", "isMade", "()Z"⟩, 47), (⟨"MadeCallsModel", "doIt", "()V"⟩, 47), (⟨"MadeCallsModel", "valueOf", "(I)I"⟩, 47), (⟨"MadeCallsModel", "ends", "(I)V"⟩, 47), (⟨"MadeCallsModel", "jump", "(ZI)V"⟩, 47)]
theorem lw_r3 : ∀ q ∈ lw_privs_3, lw_okq q := List.forall_mem_cons.mpr ⟨lw_p32, List.forall_mem_cons.mpr ⟨lw_p33, List.forall_mem_cons.mpr ⟨lw_p34, List.forall_mem_cons.mpr ⟨lw_p35, List.forall_mem_cons.mpr ⟨lw_p36, List.forall_mem_cons.mpr ⟨lw_p37, List.forall_mem_cons.mpr ⟨lw_p38, List.forall_mem_cons.mpr ⟨lw_p39, List.forall_mem_cons.mpr ⟨lw_p40, List.forall_mem_cons.mpr ⟨lw_p41, List.forall_mem_cons.mpr ⟨lw_p42, List.forall_mem_cons.mpr ⟨lw_p43, List.forall_mem_cons.mpr ⟨lw_p44, List.forall_mem_cons.mpr ⟨lw_p45, List.forall_mem_cons.mpr ⟨lw_p46, List.forall_mem_cons.mpr ⟨lw_p47, fun _ h => absurd h List.not_mem_nil⟩⟩⟩⟩⟩⟩⟩⟩⟩⟩⟩⟩⟩⟩⟩⟩
theorem lw_p48 : lw_okq (⟨"MadeCallsModel", "throwing", "(I)V"⟩, 47) := ⟨⟨by decide +kernel, by decide +kernel⟩, List.mem_of_getElem? (i := 596) (by decide +kernel), List.mem_of_getElem? (i := 876) (by decide +kernel), List.mem_of_getElem? (i := 877) (by decide +kernel)⟩
theorem lw_p49 : lw_okq (⟨"MadeCallsModel", "reckon", "(II)V"⟩, 47) := ⟨⟨by decide +kernel, by decide +kernel⟩, List.mem_of_getElem? (i := 596) (by decide +kernel), List.mem_of_getElem? (i := 880) (by decide +kernel), List.mem_of_getElem? (i := 881) (by decide +kernel)⟩
def lw_privs_4 : List (MethodName × Nat) := [(⟨"MadeCallsModel", "throwing", "(I)V"⟩, 47), (⟨"MadeCallsModel", "reckon", "(II)V"⟩, 47)]
theorem lw_r4 : ∀ q ∈ lw_privs_4, lw_okq q := List.forall_mem_cons.mpr ⟨lw_p48, List.forall_mem_cons.mpr ⟨lw_p49, fun _ h => absurd h List.not_mem_nil⟩⟩
def lw_privs : List (MethodName × Nat) := lw_privs_1 ++ (lw_privs_2 ++ (lw_privs_3 ++ (lw_privs_4)))
def lw_tbl : List Cond := k2_sels lw_privs ++ tables_1
theorem lw_privs_ok : ∀ q ∈ lw_privs, lw_okq q := by
  show ∀ q ∈ lw_privs_1 ++ (lw_privs_2 ++ (lw_privs_3 ++ (lw_privs_4))), lw_okq q
  exact List.forall_mem_append.mpr ⟨lw_r1, List.forall_mem_append.mpr ⟨lw_r2, List.forall_mem_append.mpr ⟨lw_r3, lw_r4⟩⟩⟩
-- ===== end of PART A; then your names; then what follows =====
end
section
def RX0 : String := "MadeCalls$Code"
def TX0 : u_T := fun k => match k with
  | _ => ("", "", "", false)
def tyX0 : Nat → FieldType := fun k => match k with
  | _ => .int
abbrev wsX00 : List Cond := u_ws RX0 TX0 0
theorem nmX0 : ∀ a, a < 0 → ∀ b, b < 0 → a ≠ b → (TX0 a).2.1 ≠ (TX0 b).2.1 := by decide +kernel
theorem tyX0_ok : ∀ k, k < 0 → parseFieldDescriptor (TX0 k).2.2.1 = some (tyX0 k) := by decide +kernel
abbrev cX0_isCode : ByteArray := prog_2_method_2_code
def yX0_isCode : MethodName := ⟨RX0, "isCode", "(I)Z"⟩
abbrev cX0_formOf : ByteArray := prog_2_method_3_code
def yX0_formOf : MethodName := ⟨RX0, "formOf", "(I)I"⟩
abbrev cX0_formBehind : ByteArray := prog_2_method_4_code
def yX0_formBehind : MethodName := ⟨RX0, "formBehind", "(II)I"⟩
abbrev cX0_fits : ByteArray := prog_2_method_5_code
def yX0_fits : MethodName := ⟨RX0, "fits", "(III)Z"⟩
abbrev cX0_isCell : ByteArray := prog_2_method_6_code
def yX0_isCell : MethodName := ⟨RX0, "isCell", "(II)Z"⟩
abbrev cX0_columnOfOffset : ByteArray := prog_2_method_7_code
def yX0_columnOfOffset : MethodName := ⟨RX0, "columnOfOffset", "(I)I"⟩
def RX1 : String := "MadeCalls$Frame"
def TX1 : u_T := fun k => match k with
  | 0 => ("MadeCalls$Frame", "locals", "[I", true)
  | 1 => ("MadeCalls$Frame", "has", "I", false)
  | 2 => ("MadeCalls$Frame", "address", "I", false)
  | 3 => ("MadeCalls$Frame", "next", "I", false)
  | 4 => ("MadeCalls$Frame", "made", "LMadeCalls$Made;", false)
  | 5 => ("MadeCalls$Frame", "nextRow", "I", false)
  | 6 => ("MadeCalls$Frame", "catchAt", "I", false)
  | 7 => ("MadeCalls$Frame", "catchRow", "I", false)
  | _ => ("MadeCalls$Frame", "into", "I", false)
def tyX1 : Nat → FieldType := fun k => match k with
  | 0 => .array .int
  | 1 => .int
  | 2 => .int
  | 3 => .int
  | 4 => .object "MadeCalls$Made"
  | 5 => .int
  | 6 => .int
  | 7 => .int
  | _ => .int
abbrev wsX10 : List Cond := u_ws RX1 TX1 9
theorem nmX1 : ∀ a, a < 9 → ∀ b, b < 9 → a ≠ b → (TX1 a).2.1 ≠ (TX1 b).2.1 := by decide +kernel
theorem tyX1_ok : ∀ k, k < 9 → parseFieldDescriptor (TX1 k).2.2.1 = some (tyX1 k) := by decide +kernel
abbrev cX1_init : ByteArray := prog_3_method_1_code
def yX1_init : MethodName := ⟨RX1, "<init>", "()V"⟩
abbrev cX1_open : ByteArray := prog_3_method_2_code
def yX1_open : MethodName := ⟨RX1, "open", "(II[II)V"⟩
abbrev cX1_goesByMade : ByteArray := prog_3_method_3_code
def yX1_goesByMade : MethodName := ⟨RX1, "goesByMade", "()Z"⟩
def RX2 : String := "MadeCalls$Made"
def TX2 : u_T := fun k => match k with
  | 0 => ("MadeCalls$Made", "rows", "[I", true)
  | 1 => ("MadeCalls$Made", "size", "I", false)
  | 2 => ("MadeCalls$Made", "address", "I", false)
  | 3 => ("MadeCalls$Made", "isKept", "Z", false)
  | 4 => ("MadeCalls$Made", "firstPage", "I", false)
  | _ => ("MadeCalls$Made", "lastPage", "I", false)
def tyX2 : Nat → FieldType := fun k => match k with
  | 0 => .array .int
  | 1 => .int
  | 2 => .int
  | 3 => .boolean
  | 4 => .int
  | _ => .int
abbrev wsX20 : List Cond := u_ws RX2 TX2 6
theorem nmX2 : ∀ a, a < 6 → ∀ b, b < 6 → a ≠ b → (TX2 a).2.1 ≠ (TX2 b).2.1 := by decide +kernel
theorem tyX2_ok : ∀ k, k < 6 → parseFieldDescriptor (TX2 k).2.2.1 = some (tyX2 k) := by decide +kernel
abbrev cX2_init : ByteArray := prog_4_method_1_code
def yX2_init : MethodName := ⟨RX2, "<init>", "()V"⟩
abbrev cX2_readAhead : ByteArray := prog_4_method_2_code
def yX2_readAhead : MethodName := ⟨RX2, "readAhead", "(LMadeCalls$Memory;I)I"⟩
abbrev cX2_linkTargets : ByteArray := prog_4_method_3_code
def yX2_linkTargets : MethodName := ⟨RX2, "linkTargets", "()I"⟩
abbrev cX2_indexOf : ByteArray := prog_4_method_4_code
def yX2_indexOf : MethodName := ⟨RX2, "indexOf", "(I)I"⟩
abbrev cX2_hasPage : ByteArray := prog_4_method_5_code
def yX2_hasPage : MethodName := ⟨RX2, "hasPage", "(I)Z"⟩
def RX3 : String := "MadeCalls$Memory"
def TX3 : u_T := fun k => match k with
  | 0 => ("MadeCalls$Memory", "bytes", "[I", true)
  | _ => ("MadeCalls$Memory", "shelf", "LMadeCalls$Shelf;", true)
def tyX3 : Nat → FieldType := fun k => match k with
  | 0 => .array .int
  | _ => .object "MadeCalls$Shelf"
abbrev wsX30 : List Cond := u_ws RX3 TX3 2
theorem nmX3 : ∀ a, a < 2 → ∀ b, b < 2 → a ≠ b → (TX3 a).2.1 ≠ (TX3 b).2.1 := by decide +kernel
theorem tyX3_ok : ∀ k, k < 2 → parseFieldDescriptor (TX3 k).2.2.1 = some (tyX3 k) := by decide +kernel
abbrev cX3_init : ByteArray := prog_5_method_1_code
def yX3_init : MethodName := ⟨RX3, "<init>", "(LMadeCalls$Shelf;)V"⟩
abbrev cX3_hasRoutine : ByteArray := prog_5_method_2_code
def yX3_hasRoutine : MethodName := ⟨RX3, "hasRoutine", "(I)Z"⟩
abbrev cX3_change : ByteArray := prog_5_method_3_code
def yX3_change : MethodName := ⟨RX3, "change", "(II)I"⟩
abbrev cX3_read : ByteArray := prog_5_method_4_code
def yX3_read : MethodName := ⟨RX3, "read", "(II[II)I"⟩
def RX4 : String := "MadeCalls$Outcome"
def TX4 : u_T := fun k => match k with
  | 0 => ("MadeCalls$Outcome", "value", "I", false)
  | 1 => ("MadeCalls$Outcome", "fault", "I", false)
  | 2 => ("MadeCalls$Outcome", "address", "I", false)
  | 3 => ("MadeCalls$Outcome", "offset", "I", false)
  | _ => ("MadeCalls$Outcome", "thrown", "I", false)
def tyX4 : Nat → FieldType := fun k => match k with
  | 0 => .int
  | 1 => .int
  | 2 => .int
  | 3 => .int
  | _ => .int
abbrev wsX40 : List Cond := u_ws RX4 TX4 5
theorem nmX4 : ∀ a, a < 5 → ∀ b, b < 5 → a ≠ b → (TX4 a).2.1 ≠ (TX4 b).2.1 := by decide +kernel
theorem tyX4_ok : ∀ k, k < 5 → parseFieldDescriptor (TX4 k).2.2.1 = some (tyX4 k) := by decide +kernel
abbrev cX4_init : ByteArray := prog_6_method_1_code
def yX4_init : MethodName := ⟨RX4, "<init>", "()V"⟩
abbrev cX4_clear : ByteArray := prog_6_method_2_code
def yX4_clear : MethodName := ⟨RX4, "clear", "()V"⟩
def RX5 : String := "MadeCalls$Row"
def TX5 : u_T := fun k => match k with
  | _ => ("", "", "", false)
def tyX5 : Nat → FieldType := fun k => match k with
  | _ => .int
abbrev wsX50 : List Cond := u_ws RX5 TX5 0
theorem nmX5 : ∀ a, a < 0 → ∀ b, b < 0 → a ≠ b → (TX5 a).2.1 ≠ (TX5 b).2.1 := by decide +kernel
theorem tyX5_ok : ∀ k, k < 0 → parseFieldDescriptor (TX5 k).2.2.1 = some (tyX5 k) := by decide +kernel
def RX6 : String := "MadeCalls$Runner"
def TX6 : u_T := fun k => match k with
  | 0 => ("MadeCalls$Runner", "outcome", "LMadeCalls$Outcome;", true)
  | 1 => ("MadeCalls$Runner", "builtIns", "[I", true)
  | 2 => ("MadeCalls$Runner", "memory", "LMadeCalls$Memory;", true)
  | 3 => ("MadeCalls$Runner", "shelf", "LMadeCalls$Shelf;", true)
  | 4 => ("MadeCalls$Runner", "globals", "[I", true)
  | 5 => ("MadeCalls$Runner", "counts", "[I", true)
  | 6 => ("MadeCalls$Runner", "frames", "[LMadeCalls$Frame;", true)
  | 7 => ("MadeCalls$Runner", "handed", "[I", true)
  | 8 => ("MadeCalls$Runner", "walked", "[I", true)
  | 9 => ("MadeCalls$Runner", "usesMade", "Z", false)
  | 10 => ("MadeCalls$Runner", "depth", "I", false)
  | 11 => ("MadeCalls$Runner", "steps", "I", false)
  | 12 => ("MadeCalls$Runner", "rows", "[I", false)
  | 13 => ("MadeCalls$Runner", "base", "I", false)
  | 14 => ("MadeCalls$Runner", "atAddress", "I", false)
  | _ => ("MadeCalls$Runner", "atOffset", "I", false)
def tyX6 : Nat → FieldType := fun k => match k with
  | 0 => .object "MadeCalls$Outcome"
  | 1 => .array .int
  | 2 => .object "MadeCalls$Memory"
  | 3 => .object "MadeCalls$Shelf"
  | 4 => .array .int
  | 5 => .array .int
  | 6 => .array (.object "MadeCalls$Frame")
  | 7 => .array .int
  | 8 => .array .int
  | 9 => .boolean
  | 10 => .int
  | 11 => .int
  | 12 => .array .int
  | 13 => .int
  | 14 => .int
  | _ => .int
abbrev wsX60 : List Cond := u_ws RX6 TX6 16
theorem nmX6 : ∀ a, a < 16 → ∀ b, b < 16 → a ≠ b → (TX6 a).2.1 ≠ (TX6 b).2.1 := by decide +kernel
theorem tyX6_ok : ∀ k, k < 16 → parseFieldDescriptor (TX6 k).2.2.1 = some (tyX6 k) := by decide +kernel
abbrev cX6_init : ByteArray := prog_8_method_1_code
def yX6_init : MethodName := ⟨RX6, "<init>", "(LMadeCalls$Memory;LMadeCalls$Shelf;[I[I)V"⟩
abbrev cX6_run : ByteArray := prog_8_method_2_code
def yX6_run : MethodName := ⟨RX6, "run", "(I[IIZ)I"⟩
abbrev cX6_enter : ByteArray := prog_8_method_3_code
def yX6_enter : MethodName := ⟨RX6, "enter", "(II)V"⟩
abbrev cX6_valueOfBuiltIn : ByteArray := prog_8_method_4_code
def yX6_valueOfBuiltIn : MethodName := ⟨RX6, "valueOfBuiltIn", "(II)I"⟩
abbrev cX6_sumOfHanded : ByteArray := prog_8_method_5_code
def yX6_sumOfHanded : MethodName := ⟨RX6, "sumOfHanded", "(I)I"⟩
abbrev cX6_greatestOfHanded : ByteArray := prog_8_method_6_code
def yX6_greatestOfHanded : MethodName := ⟨RX6, "greatestOfHanded", "(I)I"⟩
abbrev cX6_handedNotZero : ByteArray := prog_8_method_7_code
def yX6_handedNotZero : MethodName := ⟨RX6, "handedNotZero", "(I)I"⟩
abbrev cX6_byteAtFirstHanded : ByteArray := prog_8_method_8_code
def yX6_byteAtFirstHanded : MethodName := ⟨RX6, "byteAtFirstHanded", "(I)I"⟩
abbrev cX6_spendStep : ByteArray := prog_8_method_9_code
def yX6_spendStep : MethodName := ⟨RX6, "spendStep", "()Z"⟩
abbrev cX6_fetch : ByteArray := prog_8_method_10_code
def yX6_fetch : MethodName := ⟨RX6, "fetch", "(LMadeCalls$Frame;)Z"⟩
abbrev cX6_carryOut : ByteArray := prog_8_method_11_code
def yX6_carryOut : MethodName := ⟨RX6, "carryOut", "(LMadeCalls$Frame;)V"⟩
abbrev cX6_reckon : ByteArray := prog_8_method_12_code
def yX6_reckon : MethodName := ⟨RX6, "reckon", "(LMadeCalls$Frame;II)V"⟩
abbrev cX6_load : ByteArray := prog_8_method_13_code
def yX6_load : MethodName := ⟨RX6, "load", "(LMadeCalls$Frame;II)V"⟩
abbrev cX6_store : ByteArray := prog_8_method_14_code
def yX6_store : MethodName := ⟨RX6, "store", "(II)V"⟩
abbrev cX6_jump : ByteArray := prog_8_method_15_code
def yX6_jump : MethodName := ⟨RX6, "jump", "(LMadeCalls$Frame;I)V"⟩
abbrev cX6_handOver : ByteArray := prog_8_method_16_code
def yX6_handOver : MethodName := ⟨RX6, "handOver", "(LMadeCalls$Frame;)V"⟩
abbrev cX6_addressFor : ByteArray := prog_8_method_17_code
def yX6_addressFor : MethodName := ⟨RX6, "addressFor", "(I)I"⟩
abbrev cX6_leave : ByteArray := prog_8_method_18_code
def yX6_leave : MethodName := ⟨RX6, "leave", "(I)V"⟩
abbrev cX6_give : ByteArray := prog_8_method_19_code
def yX6_give : MethodName := ⟨RX6, "give", "(I)V"⟩
abbrev cX6_throwOut : ByteArray := prog_8_method_20_code
def yX6_throwOut : MethodName := ⟨RX6, "throwOut", "(I)V"⟩
abbrev cX6_fail : ByteArray := prog_8_method_21_code
def yX6_fail : MethodName := ⟨RX6, "fail", "(I)V"⟩
abbrev cX6_valueOf : ByteArray := prog_8_method_22_code
def yX6_valueOf : MethodName := ⟨RX6, "valueOf", "(LMadeCalls$Frame;I)I"⟩
abbrev cX6_set : ByteArray := prog_8_method_23_code
def yX6_set : MethodName := ⟨RX6, "set", "(LMadeCalls$Frame;II)V"⟩
abbrev cX6_indexOfCell : ByteArray := prog_8_method_24_code
def yX6_indexOfCell : MethodName := ⟨RX6, "indexOfCell", "(I)I"⟩
def RX7 : String := "MadeCalls$Shelf"
def TX7 : u_T := fun k => match k with
  | 0 => ("MadeCalls$Shelf", "most", "I", true)
  | 1 => ("MadeCalls$Shelf", "all", "[LMadeCalls$Made;", true)
  | 2 => ("MadeCalls$Shelf", "counts", "[I", true)
  | _ => ("MadeCalls$Shelf", "size", "I", false)
def tyX7 : Nat → FieldType := fun k => match k with
  | 0 => .int
  | 1 => .array (.object "MadeCalls$Made")
  | 2 => .array .int
  | _ => .int
abbrev wsX70 : List Cond := u_ws RX7 TX7 4
theorem nmX7 : ∀ a, a < 4 → ∀ b, b < 4 → a ≠ b → (TX7 a).2.1 ≠ (TX7 b).2.1 := by decide +kernel
theorem tyX7_ok : ∀ k, k < 4 → parseFieldDescriptor (TX7 k).2.2.1 = some (tyX7 k) := by decide +kernel
abbrev cX7_init : ByteArray := prog_9_method_1_code
def yX7_init : MethodName := ⟨RX7, "<init>", "(I[I)V"⟩
abbrev cX7_draft : ByteArray := prog_9_method_2_code
def yX7_draft : MethodName := ⟨RX7, "draft", "()LMadeCalls$Made;"⟩
abbrev cX7_keepDraft : ByteArray := prog_9_method_3_code
def yX7_keepDraft : MethodName := ⟨RX7, "keepDraft", "()V"⟩
abbrev cX7_find : ByteArray := prog_9_method_4_code
def yX7_find : MethodName := ⟨RX7, "find", "(I)LMadeCalls$Made;"⟩
abbrev cX7_addressOf : ByteArray := prog_9_method_5_code
def yX7_addressOf : MethodName := ⟨RX7, "addressOf", "(I)I"⟩
abbrev cX7_dropPage : ByteArray := prog_9_method_6_code
def yX7_dropPage : MethodName := ⟨RX7, "dropPage", "(I)I"⟩
abbrev cX7_dropAt : ByteArray := prog_9_method_7_code
def yX7_dropAt : MethodName := ⟨RX7, "dropAt", "(I)V"⟩
def RX8 : String := "MadeCalls"
def TX8 : u_T := fun k => match k with
  | 0 => ("MadeCalls", "counts", "[I", true)
  | 1 => ("MadeCalls", "globals", "[I", true)
  | 2 => ("MadeCalls", "arguments", "[I", true)
  | 3 => ("MadeCalls", "shelf", "LMadeCalls$Shelf;", true)
  | 4 => ("MadeCalls", "memory", "LMadeCalls$Memory;", true)
  | 5 => ("MadeCalls", "runner", "LMadeCalls$Runner;", true)
  | _ => ("MadeCalls", "unmakable", "I", false)
def tyX8 : Nat → FieldType := fun k => match k with
  | 0 => .array .int
  | 1 => .array .int
  | 2 => .array .int
  | 3 => .object "MadeCalls$Shelf"
  | 4 => .object "MadeCalls$Memory"
  | 5 => .object "MadeCalls$Runner"
  | _ => .int
abbrev wsX80 : List Cond := u_ws RX8 TX8 7
theorem nmX8 : ∀ a, a < 7 → ∀ b, b < 7 → a ≠ b → (TX8 a).2.1 ≠ (TX8 b).2.1 := by decide +kernel
theorem tyX8_ok : ∀ k, k < 7 → parseFieldDescriptor (TX8 k).2.2.1 = some (tyX8 k) := by decide +kernel
abbrev cX8_init : ByteArray := prog_1_method_1_code
def yX8_init : MethodName := ⟨RX8, "<init>", "(I)V"⟩
abbrev cX8_poke : ByteArray := prog_1_method_2_code
def yX8_poke : MethodName := ⟨RX8, "poke", "(II)I"⟩
abbrev cX8_feed : ByteArray := prog_1_method_3_code
def yX8_feed : MethodName := ⟨RX8, "feed", "(IIJ)I"⟩
abbrev cX8_peek : ByteArray := prog_1_method_4_code
def yX8_peek : MethodName := ⟨RX8, "peek", "(I)I"⟩
abbrev cX8_global : ByteArray := prog_1_method_5_code
def yX8_global : MethodName := ⟨RX8, "global", "(II)I"⟩
abbrev cX8_make : ByteArray := prog_1_method_6_code
def yX8_make : MethodName := ⟨RX8, "make", "(I)I"⟩
abbrev cX8_place : ByteArray := prog_1_method_7_code
def yX8_place : MethodName := ⟨RX8, "place", "()I"⟩
abbrev cX8_argument : ByteArray := prog_1_method_8_code
def yX8_argument : MethodName := ⟨RX8, "argument", "(II)I"⟩
abbrev cX8_call : ByteArray := prog_1_method_9_code
def yX8_call : MethodName := ⟨RX8, "call", "(II)I"⟩
abbrev cX8_walk : ByteArray := prog_1_method_10_code
def yX8_walk : MethodName := ⟨RX8, "walk", "(II)I"⟩
abbrev cX8_result : ByteArray := prog_1_method_11_code
def yX8_result : MethodName := ⟨RX8, "result", "()I"⟩
abbrev cX8_fault : ByteArray := prog_1_method_12_code
def yX8_fault : MethodName := ⟨RX8, "fault", "(I)I"⟩
abbrev cX8_accelerate : ByteArray := prog_1_method_13_code
def yX8_accelerate : MethodName := ⟨RX8, "accelerate", "(II)I"⟩
abbrev cX8_kept : ByteArray := prog_1_method_14_code
def yX8_kept : MethodName := ⟨RX8, "kept", "(I)I"⟩
abbrev cX8_drop : ByteArray := prog_1_method_15_code
def yX8_drop : MethodName := ⟨RX8, "drop", "(I)I"⟩
abbrev cX8_count : ByteArray := prog_1_method_16_code
def yX8_count : MethodName := ⟨RX8, "count", "(I)I"⟩
abbrev cX8_refusalOf : ByteArray := prog_1_method_17_code
def yX8_refusalOf : MethodName := ⟨RX8, "refusalOf", "(II)I"⟩
abbrev cX8_isAddress : ByteArray := prog_1_method_18_code
def yX8_isAddress : MethodName := ⟨RX8, "isAddress", "(I)Z"⟩
abbrev cX8_isPlace : ByteArray := prog_1_method_19_code
def yX8_isPlace : MethodName := ⟨RX8, "isPlace", "(I)Z"⟩
def RX9 : String := "MadeCallsModel"
def TX9 : u_T := fun k => match k with
  | 0 => ("MadeCallsModel", "thrown", "I", false)
  | 1 => ("MadeCallsModel", "memory", "[I", true)
  | 2 => ("MadeCallsModel", "globals", "[I", true)
  | 3 => ("MadeCallsModel", "arguments", "[I", true)
  | 4 => ("MadeCallsModel", "accelerated", "[I", true)
  | 5 => ("MadeCallsModel", "most", "I", true)
  | 6 => ("MadeCallsModel", "kept", "I", false)
  | 7 => ("MadeCallsModel", "keptAddress", "[I", true)
  | 8 => ("MadeCallsModel", "keptEnd", "[I", true)
  | 9 => ("MadeCallsModel", "keptNumber", "[I", true)
  | 10 => ("MadeCallsModel", "placeTold", "I", false)
  | 11 => ("MadeCallsModel", "made", "I", false)
  | 12 => ("MadeCallsModel", "dropped", "I", false)
  | 13 => ("MadeCallsModel", "stepsEver", "I", false)
  | 14 => ("MadeCallsModel", "stepsMade", "I", false)
  | 15 => ("MadeCallsModel", "callsEver", "I", false)
  | 16 => ("MadeCallsModel", "callsMade", "I", false)
  | 17 => ("MadeCallsModel", "faults", "I", false)
  | 18 => ("MadeCallsModel", "caught", "I", false)
  | 19 => ("MadeCallsModel", "code", "I", false)
  | 20 => ("MadeCallsModel", "codeFault", "I", false)
  | 21 => ("MadeCallsModel", "behind", "I", false)
  | 22 => ("MadeCallsModel", "operand", "[I", true)
  | 23 => ("MadeCallsModel", "operands", "I", false)
  | 24 => ("MadeCallsModel", "localMany", "I", false)
  | 25 => ("MadeCallsModel", "offsets", "[I", true)
  | 26 => ("MadeCallsModel", "targets", "[I", true)
  | 27 => ("MadeCallsModel", "many", "I", false)
  | 28 => ("MadeCallsModel", "steps", "I", false)
  | 29 => ("MadeCallsModel", "depth", "I", false)
  | 30 => ("MadeCallsModel", "byMade", "Z", false)
  | 31 => ("MadeCallsModel", "address", "[I", true)
  | 32 => ("MadeCallsModel", "at", "[I", true)
  | 33 => ("MadeCallsModel", "locals", "[I", true)
  | 34 => ("MadeCallsModel", "catches", "[I", true)
  | 35 => ("MadeCallsModel", "cell", "[I", true)
  | 36 => ("MadeCallsModel", "number", "[I", true)
  | 37 => ("MadeCallsModel", "local", "[I", true)
  | 38 => ("MadeCallsModel", "given", "[I", true)
  | 39 => ("MadeCallsModel", "givenMany", "I", false)
  | 40 => ("MadeCallsModel", "fault", "I", false)
  | 41 => ("MadeCallsModel", "faultAddress", "I", false)
  | 42 => ("MadeCallsModel", "faultOffset", "I", false)
  | 43 => ("MadeCallsModel", "faultNumber", "I", false)
  | 44 => ("MadeCallsModel", "result", "I", false)
  | 45 => ("MadeCallsModel", "here", "I", false)
  | _ => ("MadeCallsModel", "hereOffset", "I", false)
def tyX9 : Nat → FieldType := fun k => match k with
  | 0 => .int
  | 1 => .array .int
  | 2 => .array .int
  | 3 => .array .int
  | 4 => .array .int
  | 5 => .int
  | 6 => .int
  | 7 => .array .int
  | 8 => .array .int
  | 9 => .array .int
  | 10 => .int
  | 11 => .int
  | 12 => .int
  | 13 => .int
  | 14 => .int
  | 15 => .int
  | 16 => .int
  | 17 => .int
  | 18 => .int
  | 19 => .int
  | 20 => .int
  | 21 => .int
  | 22 => .array .int
  | 23 => .int
  | 24 => .int
  | 25 => .array .int
  | 26 => .array .int
  | 27 => .int
  | 28 => .int
  | 29 => .int
  | 30 => .boolean
  | 31 => .array .int
  | 32 => .array .int
  | 33 => .array .int
  | 34 => .array .int
  | 35 => .array .int
  | 36 => .array .int
  | 37 => .array .int
  | 38 => .array .int
  | 39 => .int
  | 40 => .int
  | 41 => .int
  | 42 => .int
  | 43 => .int
  | 44 => .int
  | 45 => .int
  | _ => .int
abbrev wsX90 : List Cond := u_ws RX9 TX9 47
theorem nmX9 : ∀ a, a < 47 → ∀ b, b < 47 → a ≠ b → (TX9 a).2.1 ≠ (TX9 b).2.1 := by decide +kernel
theorem tyX9_ok : ∀ k, k < 47 → parseFieldDescriptor (TX9 k).2.2.1 = some (tyX9 k) := by decide +kernel
abbrev cX9_init : ByteArray := prog_11_method_1_code
def yX9_init : MethodName := ⟨RX9, "<init>", "(I)V"⟩
abbrev cX9_thrown : ByteArray := prog_11_method_2_code
def yX9_thrown : MethodName := ⟨RX9, "thrown", "()I"⟩
abbrev cX9_isPlace : ByteArray := prog_11_method_3_code
def yX9_isPlace : MethodName := ⟨RX9, "isPlace", "(I)Z"⟩
abbrev cX9_away : ByteArray := prog_11_method_4_code
def yX9_away : MethodName := ⟨RX9, "away", "(I)V"⟩
abbrev cX9_dropPage : ByteArray := prog_11_method_5_code
def yX9_dropPage : MethodName := ⟨RX9, "dropPage", "(I)I"⟩
abbrev cX9_write : ByteArray := prog_11_method_6_code
def yX9_write : MethodName := ⟨RX9, "write", "(II)I"⟩
abbrev cX9_poke : ByteArray := prog_11_method_7_code
def yX9_poke : MethodName := ⟨RX9, "poke", "(II)I"⟩
abbrev cX9_feed : ByteArray := prog_11_method_8_code
def yX9_feed : MethodName := ⟨RX9, "feed", "(IIJ)I"⟩
abbrev cX9_peek : ByteArray := prog_11_method_9_code
def yX9_peek : MethodName := ⟨RX9, "peek", "(I)I"⟩
abbrev cX9_global : ByteArray := prog_11_method_10_code
def yX9_global : MethodName := ⟨RX9, "global", "(II)I"⟩
abbrev cX9_nextByte : ByteArray := prog_11_method_11_code
def yX9_nextByte : MethodName := ⟨RX9, "nextByte", "()I"⟩
abbrev cX9_bad : ByteArray := prog_11_method_12_code
def yX9_bad : MethodName := ⟨RX9, "bad", "(Z)V"⟩
abbrev cX9_isCell : ByteArray := prog_11_method_13_code
def yX9_isCell : MethodName := ⟨RX9, "isCell", "(I)Z"⟩
abbrev cX9_operandOf : ByteArray := prog_11_method_14_code
def yX9_operandOf : MethodName := ⟨RX9, "operandOf", "(I)V"⟩
abbrev cX9_readAt : ByteArray := prog_11_method_15_code
def yX9_readAt : MethodName := ⟨RX9, "readAt", "(II)V"⟩
abbrev cX9_failsAt : ByteArray := prog_11_method_16_code
def yX9_failsAt : MethodName := ⟨RX9, "failsAt", "(I)I"⟩
abbrev cX9_isAddress : ByteArray := prog_11_method_17_code
def yX9_isAddress : MethodName := ⟨RX9, "isAddress", "(I)Z"⟩
abbrev cX9_keptOf : ByteArray := prog_11_method_18_code
def yX9_keptOf : MethodName := ⟨RX9, "keptOf", "(I)I"⟩
abbrev cX9_make : ByteArray := prog_11_method_19_code
def yX9_make : MethodName := ⟨RX9, "make", "(I)I"⟩
abbrev cX9_place : ByteArray := prog_11_method_20_code
def yX9_place : MethodName := ⟨RX9, "place", "()I"⟩
abbrev cX9_fails : ByteArray := prog_11_method_21_code
def yX9_fails : MethodName := ⟨RX9, "fails", "(I)V"⟩
abbrev cX9_valueOf : ByteArray := prog_11_method_22_code
def yX9_valueOf : MethodName := ⟨RX9, "valueOf", "(I)I"⟩
abbrev cX9_becomes : ByteArray := prog_11_method_23_code
def yX9_becomes : MethodName := ⟨RX9, "becomes", "(II)V"⟩
abbrev cX9_step : ByteArray := prog_11_method_24_code
def yX9_step : MethodName := ⟨RX9, "step", "()Z"⟩
abbrev cX9_builtIn : ByteArray := prog_11_method_25_code
def yX9_builtIn : MethodName := ⟨RX9, "builtIn", "(I)I"⟩
abbrev cX9_go : ByteArray := prog_11_method_26_code
def yX9_go : MethodName := ⟨RX9, "go", "(II)V"⟩
abbrev cX9_isMade : ByteArray := prog_11_method_27_code
def yX9_isMade : MethodName := ⟨RX9, "isMade", "()Z"⟩
abbrev cX9_ends : ByteArray := prog_11_method_28_code
def yX9_ends : MethodName := ⟨RX9, "ends", "(I)V"⟩
abbrev cX9_throwing : ByteArray := prog_11_method_29_code
def yX9_throwing : MethodName := ⟨RX9, "throwing", "(I)V"⟩
abbrev cX9_reckon : ByteArray := prog_11_method_30_code
def yX9_reckon : MethodName := ⟨RX9, "reckon", "(II)V"⟩
abbrev cX9_jump : ByteArray := prog_11_method_31_code
def yX9_jump : MethodName := ⟨RX9, "jump", "(ZI)V"⟩
abbrev cX9_doIt : ByteArray := prog_11_method_32_code
def yX9_doIt : MethodName := ⟨RX9, "doIt", "()V"⟩
abbrev cX9_one : ByteArray := prog_11_method_33_code
def yX9_one : MethodName := ⟨RX9, "one", "()V"⟩
abbrev cX9_goes : ByteArray := prog_11_method_34_code
def yX9_goes : MethodName := ⟨RX9, "goes", "(IIZ)I"⟩
abbrev cX9_argument : ByteArray := prog_11_method_35_code
def yX9_argument : MethodName := ⟨RX9, "argument", "(II)I"⟩
abbrev cX9_call : ByteArray := prog_11_method_36_code
def yX9_call : MethodName := ⟨RX9, "call", "(II)I"⟩
abbrev cX9_walk : ByteArray := prog_11_method_37_code
def yX9_walk : MethodName := ⟨RX9, "walk", "(II)I"⟩
abbrev cX9_result : ByteArray := prog_11_method_38_code
def yX9_result : MethodName := ⟨RX9, "result", "()I"⟩
abbrev cX9_fault : ByteArray := prog_11_method_39_code
def yX9_fault : MethodName := ⟨RX9, "fault", "(I)I"⟩
abbrev cX9_accelerate : ByteArray := prog_11_method_40_code
def yX9_accelerate : MethodName := ⟨RX9, "accelerate", "(II)I"⟩
abbrev cX9_kept : ByteArray := prog_11_method_41_code
def yX9_kept : MethodName := ⟨RX9, "kept", "(I)I"⟩
abbrev cX9_drop : ByteArray := prog_11_method_42_code
def yX9_drop : MethodName := ⟨RX9, "drop", "(I)I"⟩
abbrev cX9_count : ByteArray := prog_11_method_43_code
def yX9_count : MethodName := ⟨RX9, "count", "(I)I"⟩
def RJx00060 : String := "java/lang/ArrayIndexOutOfBoundsException"
def TJx00060 : u_T := fun k => match k with
  | 0 => ("java/lang/Throwable", "backtrace", "Ljava/lang/Object;", false)
  | 1 => ("java/lang/Throwable", "detailMessage", "Ljava/lang/String;", false)
  | 2 => ("java/lang/Throwable", "cause", "Ljava/lang/Throwable;", false)
  | 3 => ("java/lang/Throwable", "stackTrace", "[Ljava/lang/StackTraceElement;", false)
  | 4 => ("java/lang/Throwable", "depth", "I", false)
  | _ => ("java/lang/Throwable", "suppressedExceptions", "Ljava/util/List;", false)
def tyJx00060 : Nat → FieldType := fun k => match k with
  | 0 => .object "java/lang/Object"
  | 1 => .object "java/lang/String"
  | 2 => .object "java/lang/Throwable"
  | 3 => .array (.object "java/lang/StackTraceElement")
  | 4 => .int
  | _ => .object "java/util/List"
abbrev wsJx000600 : List Cond := u_ws RJx00060 TJx00060 6
theorem nmJx00060 : ∀ a, a < 6 → ∀ b, b < 6 → a ≠ b → (TJx00060 a).2.1 ≠ (TJx00060 b).2.1 := by decide +kernel
theorem tyJx00060_ok : ∀ k, k < 6 → parseFieldDescriptor (TJx00060 k).2.2.1 = some (tyJx00060 k) := by decide +kernel
abbrev cJx00060_init_a7421 : ByteArray := prog_12_method_2_code
def yJx00060_init_a7421 : MethodName := ⟨RJx00060, "<init>", "(Ljava/lang/String;)V"⟩
def RJ9 : String := "java/lang/Math"
def TJ9 : u_T := fun k => match k with
  | _ => ("", "", "", false)
def tyJ9 : Nat → FieldType := fun k => match k with
  | _ => .int
abbrev wsJ90 : List Cond := u_ws RJ9 TJ9 0
theorem nmJ9 : ∀ a, a < 0 → ∀ b, b < 0 → a ≠ b → (TJ9 a).2.1 ≠ (TJ9 b).2.1 := by decide +kernel
theorem tyJ9_ok : ∀ k, k < 0 → parseFieldDescriptor (TJ9 k).2.2.1 = some (tyJ9 k) := by decide +kernel
abbrev cJ9_max_7cf53 : ByteArray := prog_15_method_65_code
def yJ9_max_7cf53 : MethodName := ⟨RJ9, "max", "(II)I"⟩
abbrev cJ9_min_7cf53 : ByteArray := prog_15_method_69_code
def yJ9_min_7cf53 : MethodName := ⟨RJ9, "min", "(II)I"⟩
def RJ0 : String := "java/lang/String"
def TJ0 : u_T := fun k => match k with
  | 0 => ("java/lang/String", "value", "[B", true)
  | _ => ("java/lang/String", "coder", "B", true)
def tyJ0 : Nat → FieldType := fun k => match k with
  | 0 => .array .byte
  | _ => .byte
abbrev wsJ00 : List Cond := u_ws RJ0 TJ0 2
theorem nmJ0 : ∀ a, a < 2 → ∀ b, b < 2 → a ≠ b → (TJ0 a).2.1 ≠ (TJ0 b).2.1 := by decide +kernel
theorem tyJ0_ok : ∀ k, k < 2 → parseFieldDescriptor (TJ0 k).2.2.1 = some (tyJ0 k) := by decide +kernel
def RL : String := "MadeCallsLaw"
abbrev cL_cell : ByteArray := method_2_code
def yL_cell : MethodName := ⟨RL, "cell", "([II)I"⟩
abbrev cL_poke : ByteArray := method_3_code
def yL_poke : MethodName := ⟨RL, "poke", "(LMadeCalls;II[J)I"⟩
abbrev cL_peek : ByteArray := method_4_code
def yL_peek : MethodName := ⟨RL, "peek", "(LMadeCalls;I[J)I"⟩
abbrev cL_global : ByteArray := method_5_code
def yL_global : MethodName := ⟨RL, "global", "(LMadeCalls;II[J)I"⟩
abbrev cL_law : ByteArray := code
def yL_law : MethodName := ⟨RL, "law", "([I)Z"⟩
abbrev vwCl : List vw_C := [(RJ0, TJ0, 2), (RJx00060, TJx00060, 6), (RX1, TX1, 9), (RX2, TX2, 6), (RX3, TX3, 2), (RX4, TX4, 5), (RX6, TX6, 16), (RX7, TX7, 4), (RX8, TX8, 7), (RX9, TX9, 47)]
end
section
theorem dX0_isCode_0 : decode cX0_isCode 0 = .ok (.iload_n 0, 1) := by decide +kernel
theorem dX0_isCode_1 : decode cX0_isCode 1 = .ok (.ifCond .lt 13, 3) := by decide +kernel
theorem dX0_isCode_4 : decode cX0_isCode 4 = .ok (.iload_n 0, 1) := by decide +kernel
theorem dX0_isCode_5 : decode cX0_isCode 5 = .ok (.bipush 15, 2) := by decide +kernel
theorem dX0_isCode_7 : decode cX0_isCode 7 = .ok (.if_icmp .gt 7, 3) := by decide +kernel
theorem dX0_isCode_10 : decode cX0_isCode 10 = .ok (.iconst 1, 1) := by decide +kernel
theorem dX0_isCode_11 : decode cX0_isCode 11 = .ok (.goto 4, 3) := by decide +kernel
theorem dX0_isCode_14 : decode cX0_isCode 14 = .ok (.iconst 0, 1) := by decide +kernel
theorem dX0_isCode_15 : decode cX0_isCode 15 = .ok (.ireturn, 1) := by decide +kernel
theorem dX0_formOf_0 : decode cX0_formOf 0 = .ok (.iload_n 0, 1) := by decide +kernel
theorem dX0_formOf_1 : decode cX0_formOf 1 = .ok (.invokestatic 11, 3) := by decide +kernel
theorem dX0_formOf_4 : decode cX0_formOf 4 = .ok (.ifCond .eq 11, 3) := by decide +kernel
theorem dX0_formOf_7 : decode cX0_formOf 7 = .ok (.getstatic 15, 3) := by decide +kernel
theorem dX0_formOf_10 : decode cX0_formOf 10 = .ok (.iload_n 0, 1) := by decide +kernel
theorem dX0_formOf_11 : decode cX0_formOf 11 = .ok (.iaload, 1) := by decide +kernel
theorem dX0_formOf_12 : decode cX0_formOf 12 = .ok (.goto 4, 3) := by decide +kernel
theorem dX0_formOf_15 : decode cX0_formOf 15 = .ok (.iconst 0, 1) := by decide +kernel
theorem dX0_formOf_16 : decode cX0_formOf 16 = .ok (.ireturn, 1) := by decide +kernel
theorem dX0_formBehind_0 : decode cX0_formBehind 0 = .ok (.iload_n 0, 1) := by decide +kernel
theorem dX0_formBehind_1 : decode cX0_formBehind 1 = .ok (.bipush 15, 2) := by decide +kernel
theorem dX0_formBehind_3 : decode cX0_formBehind 3 = .ok (.iand, 1) := by decide +kernel
theorem dX0_formBehind_4 : decode cX0_formBehind 4 = .ok (.iconst 4, 1) := by decide +kernel
theorem dX0_formBehind_5 : decode cX0_formBehind 5 = .ok (.if_icmp .ne 15, 3) := by decide +kernel
theorem dX0_formBehind_8 : decode cX0_formBehind 8 = .ok (.sipush 4369, 3) := by decide +kernel
theorem dX0_formBehind_11 : decode cX0_formBehind 11 = .ok (.iconst 4, 1) := by decide +kernel
theorem dX0_formBehind_12 : decode cX0_formBehind 12 = .ok (.iconst 4, 1) := by decide +kernel
theorem dX0_formBehind_13 : decode cX0_formBehind 13 = .ok (.iload_n 1, 1) := by decide +kernel
theorem dX0_formBehind_14 : decode cX0_formBehind 14 = .ok (.isub, 1) := by decide +kernel
theorem dX0_formBehind_15 : decode cX0_formBehind 15 = .ok (.imul, 1) := by decide +kernel
theorem dX0_formBehind_16 : decode cX0_formBehind 16 = .ok (.ishr, 1) := by decide +kernel
theorem dX0_formBehind_17 : decode cX0_formBehind 17 = .ok (.goto 6, 3) := by decide +kernel
theorem dX0_formBehind_20 : decode cX0_formBehind 20 = .ok (.iload_n 0, 1) := by decide +kernel
theorem dX0_formBehind_21 : decode cX0_formBehind 21 = .ok (.iconst 4, 1) := by decide +kernel
theorem dX0_formBehind_22 : decode cX0_formBehind 22 = .ok (.ishr, 1) := by decide +kernel
theorem dX0_formBehind_23 : decode cX0_formBehind 23 = .ok (.ireturn, 1) := by decide +kernel
theorem dX0_fits_0 : decode cX0_fits 0 = .ok (.iload_n 0, 1) := by decide +kernel
theorem dX0_fits_1 : decode cX0_fits 1 = .ok (.bipush 15, 2) := by decide +kernel
theorem dX0_fits_3 : decode cX0_fits 3 = .ok (.iand, 1) := by decide +kernel
theorem dX0_fits_4 : decode cX0_fits 4 = .ok (.tableswitch 57 1 3 #[28, 49, 55], 28) := by decide +kernel
theorem dX0_fits_32 : decode cX0_fits 32 = .ok (.iload_n 1, 1) := by decide +kernel
theorem dX0_fits_33 : decode cX0_fits 33 = .ok (.sipush 128, 3) := by decide +kernel
theorem dX0_fits_36 : decode cX0_fits 36 = .ok (.if_icmp .lt 11, 3) := by decide +kernel
theorem dX0_fits_39 : decode cX0_fits 39 = .ok (.iload_n 1, 1) := by decide +kernel
theorem dX0_fits_40 : decode cX0_fits 40 = .ok (.iload_n 2, 1) := by decide +kernel
theorem dX0_fits_41 : decode cX0_fits 41 = .ok (.invokestatic 19, 3) := by decide +kernel
theorem dX0_fits_44 : decode cX0_fits 44 = .ok (.ifCond .eq 7, 3) := by decide +kernel
theorem dX0_fits_47 : decode cX0_fits 47 = .ok (.iconst 1, 1) := by decide +kernel
theorem dX0_fits_48 : decode cX0_fits 48 = .ok (.goto 4, 3) := by decide +kernel
theorem dX0_fits_51 : decode cX0_fits 51 = .ok (.iconst 0, 1) := by decide +kernel
theorem dX0_fits_52 : decode cX0_fits 52 = .ok (.ireturn, 1) := by decide +kernel
theorem dX0_fits_53 : decode cX0_fits 53 = .ok (.iload_n 1, 1) := by decide +kernel
theorem dX0_fits_54 : decode cX0_fits 54 = .ok (.iload_n 2, 1) := by decide +kernel
theorem dX0_fits_55 : decode cX0_fits 55 = .ok (.invokestatic 19, 3) := by decide +kernel
theorem dX0_fits_58 : decode cX0_fits 58 = .ok (.ireturn, 1) := by decide +kernel
theorem dX0_fits_59 : decode cX0_fits 59 = .ok (.iconst 1, 1) := by decide +kernel
theorem dX0_fits_60 : decode cX0_fits 60 = .ok (.ireturn, 1) := by decide +kernel
theorem dX0_fits_61 : decode cX0_fits 61 = .ok (.iload_n 1, 1) := by decide +kernel
theorem dX0_fits_62 : decode cX0_fits 62 = .ok (.iconst 4, 1) := by decide +kernel
theorem dX0_fits_63 : decode cX0_fits 63 = .ok (.if_icmp .gt 7, 3) := by decide +kernel
theorem dX0_fits_66 : decode cX0_fits 66 = .ok (.iconst 1, 1) := by decide +kernel
theorem dX0_fits_67 : decode cX0_fits 67 = .ok (.goto 4, 3) := by decide +kernel
theorem dX0_fits_70 : decode cX0_fits 70 = .ok (.iconst 0, 1) := by decide +kernel
theorem dX0_fits_71 : decode cX0_fits 71 = .ok (.ireturn, 1) := by decide +kernel
theorem dX0_isCell_0 : decode cX0_isCell 0 = .ok (.iload_n 0, 1) := by decide +kernel
theorem dX0_isCell_1 : decode cX0_isCell 1 = .ok (.sipush 128, 3) := by decide +kernel
theorem dX0_isCell_4 : decode cX0_isCell 4 = .ok (.if_icmp .lt 12, 3) := by decide +kernel
theorem dX0_isCell_7 : decode cX0_isCell 7 = .ok (.iload_n 0, 1) := by decide +kernel
theorem dX0_isCell_8 : decode cX0_isCell 8 = .ok (.sipush 128, 3) := by decide +kernel
theorem dX0_isCell_11 : decode cX0_isCell 11 = .ok (.iload_n 1, 1) := by decide +kernel
theorem dX0_isCell_12 : decode cX0_isCell 12 = .ok (.iadd, 1) := by decide +kernel
theorem dX0_isCell_13 : decode cX0_isCell 13 = .ok (.if_icmp .lt 17, 3) := by decide +kernel
theorem dX0_isCell_16 : decode cX0_isCell 16 = .ok (.iload_n 0, 1) := by decide +kernel
theorem dX0_isCell_17 : decode cX0_isCell 17 = .ok (.sipush 136, 3) := by decide +kernel
theorem dX0_isCell_20 : decode cX0_isCell 20 = .ok (.if_icmp .lt 14, 3) := by decide +kernel
theorem dX0_isCell_23 : decode cX0_isCell 23 = .ok (.iload_n 0, 1) := by decide +kernel
theorem dX0_isCell_24 : decode cX0_isCell 24 = .ok (.sipush 144, 3) := by decide +kernel
theorem dX0_isCell_27 : decode cX0_isCell 27 = .ok (.if_icmp .ge 7, 3) := by decide +kernel
theorem dX0_isCell_30 : decode cX0_isCell 30 = .ok (.iconst 1, 1) := by decide +kernel
theorem dX0_isCell_31 : decode cX0_isCell 31 = .ok (.goto 4, 3) := by decide +kernel
theorem dX0_isCell_34 : decode cX0_isCell 34 = .ok (.iconst 0, 1) := by decide +kernel
theorem dX0_isCell_35 : decode cX0_isCell 35 = .ok (.ireturn, 1) := by decide +kernel
theorem dX0_columnOfOffset_0 : decode cX0_columnOfOffset 0 = .ok (.iload_n 0, 1) := by decide +kernel
theorem dX0_columnOfOffset_1 : decode cX0_columnOfOffset 1 = .ok (.tableswitch 43 9 14 #[39, 41, 41, 43, 43, 39], 39) := by decide +kernel
theorem dX0_columnOfOffset_40 : decode cX0_columnOfOffset 40 = .ok (.iconst 1, 1) := by decide +kernel
theorem dX0_columnOfOffset_41 : decode cX0_columnOfOffset 41 = .ok (.ireturn, 1) := by decide +kernel
theorem dX0_columnOfOffset_42 : decode cX0_columnOfOffset 42 = .ok (.iconst 3, 1) := by decide +kernel
theorem dX0_columnOfOffset_43 : decode cX0_columnOfOffset 43 = .ok (.ireturn, 1) := by decide +kernel
theorem dX0_columnOfOffset_44 : decode cX0_columnOfOffset 44 = .ok (.iconst 0, 1) := by decide +kernel
theorem dX0_columnOfOffset_45 : decode cX0_columnOfOffset 45 = .ok (.ireturn, 1) := by decide +kernel
theorem dX1_init_0 : decode cX1_init 0 = .ok (.aload_n 0, 1) := by decide +kernel
theorem dX1_init_1 : decode cX1_init 1 = .ok (.invokespecial 3, 3) := by decide +kernel
theorem dX1_init_4 : decode cX1_init 4 = .ok (.aload_n 0, 1) := by decide +kernel
theorem dX1_init_5 : decode cX1_init 5 = .ok (.bipush 8, 2) := by decide +kernel
theorem dX1_init_7 : decode cX1_init 7 = .ok (.newarray .int, 2) := by decide +kernel
theorem dX1_init_9 : decode cX1_init 9 = .ok (.putfield 9, 3) := by decide +kernel
theorem dX1_init_12 : decode cX1_init 12 = .ok (.return_, 1) := by decide +kernel
theorem dX1_open_0 : decode cX1_open 0 = .ok (.aload_n 0, 1) := by decide +kernel
theorem dX1_open_1 : decode cX1_open 1 = .ok (.iload_n 1, 1) := by decide +kernel
theorem dX1_open_2 : decode cX1_open 2 = .ok (.putfield 15, 3) := by decide +kernel
theorem dX1_open_5 : decode cX1_open 5 = .ok (.aload_n 0, 1) := by decide +kernel
theorem dX1_open_6 : decode cX1_open 6 = .ok (.iload_n 2, 1) := by decide +kernel
theorem dX1_open_7 : decode cX1_open 7 = .ok (.putfield 19, 3) := by decide +kernel
theorem dX1_open_10 : decode cX1_open 10 = .ok (.iconst 0, 1) := by decide +kernel
theorem dX1_open_11 : decode cX1_open 11 = .ok (.istore 5, 2) := by decide +kernel
theorem dX1_open_13 : decode cX1_open 13 = .ok (.iload 5, 2) := by decide +kernel
theorem dX1_open_15 : decode cX1_open 15 = .ok (.bipush 8, 2) := by decide +kernel
theorem dX1_open_17 : decode cX1_open 17 = .ok (.if_icmp .ge 37, 3) := by decide +kernel
theorem dX1_open_20 : decode cX1_open 20 = .ok (.aload_n 0, 1) := by decide +kernel
theorem dX1_open_21 : decode cX1_open 21 = .ok (.getfield 9, 3) := by decide +kernel
theorem dX1_open_24 : decode cX1_open 24 = .ok (.iload 5, 2) := by decide +kernel
theorem dX1_open_26 : decode cX1_open 26 = .ok (.iload 5, 2) := by decide +kernel
theorem dX1_open_28 : decode cX1_open 28 = .ok (.iload 4, 2) := by decide +kernel
theorem dX1_open_30 : decode cX1_open 30 = .ok (.if_icmp .ge 16, 3) := by decide +kernel
theorem dX1_open_33 : decode cX1_open 33 = .ok (.iload 5, 2) := by decide +kernel
theorem dX1_open_35 : decode cX1_open 35 = .ok (.iload_n 2, 1) := by decide +kernel
theorem dX1_open_36 : decode cX1_open 36 = .ok (.if_icmp .ge 10, 3) := by decide +kernel
theorem dX1_open_39 : decode cX1_open 39 = .ok (.aload_n 3, 1) := by decide +kernel
theorem dX1_open_40 : decode cX1_open 40 = .ok (.iload 5, 2) := by decide +kernel
theorem dX1_open_42 : decode cX1_open 42 = .ok (.iaload, 1) := by decide +kernel
theorem dX1_open_43 : decode cX1_open 43 = .ok (.goto 4, 3) := by decide +kernel
theorem dX1_open_46 : decode cX1_open 46 = .ok (.iconst 0, 1) := by decide +kernel
theorem dX1_open_47 : decode cX1_open 47 = .ok (.iastore, 1) := by decide +kernel
theorem dX1_open_48 : decode cX1_open 48 = .ok (.iinc 5 1, 3) := by decide +kernel
theorem dX1_open_51 : decode cX1_open 51 = .ok (.goto (-38), 3) := by decide +kernel
theorem dX1_open_54 : decode cX1_open 54 = .ok (.aload_n 0, 1) := by decide +kernel
theorem dX1_open_55 : decode cX1_open 55 = .ok (.iconst 1, 1) := by decide +kernel
theorem dX1_open_56 : decode cX1_open 56 = .ok (.putfield 22, 3) := by decide +kernel
theorem dX1_open_59 : decode cX1_open 59 = .ok (.aload_n 0, 1) := by decide +kernel
theorem dX1_open_60 : decode cX1_open 60 = .ok (.iconst 0, 1) := by decide +kernel
theorem dX1_open_61 : decode cX1_open 61 = .ok (.putfield 25, 3) := by decide +kernel
theorem dX1_open_64 : decode cX1_open 64 = .ok (.aload_n 0, 1) := by decide +kernel
theorem dX1_open_65 : decode cX1_open 65 = .ok (.iconst 0, 1) := by decide +kernel
theorem dX1_open_66 : decode cX1_open 66 = .ok (.putfield 28, 3) := by decide +kernel
theorem dX1_open_69 : decode cX1_open 69 = .ok (.aload_n 0, 1) := by decide +kernel
theorem dX1_open_70 : decode cX1_open 70 = .ok (.iconst (-1), 1) := by decide +kernel
theorem dX1_open_71 : decode cX1_open 71 = .ok (.putfield 31, 3) := by decide +kernel
theorem dX1_open_74 : decode cX1_open 74 = .ok (.return_, 1) := by decide +kernel
theorem dX1_goesByMade_0 : decode cX1_goesByMade 0 = .ok (.aload_n 0, 1) := by decide +kernel
theorem dX1_goesByMade_1 : decode cX1_goesByMade 1 = .ok (.getfield 34, 3) := by decide +kernel
theorem dX1_goesByMade_4 : decode cX1_goesByMade 4 = .ok (.ifnull 38, 3) := by decide +kernel
theorem dX1_goesByMade_7 : decode cX1_goesByMade 7 = .ok (.aload_n 0, 1) := by decide +kernel
theorem dX1_goesByMade_8 : decode cX1_goesByMade 8 = .ok (.getfield 34, 3) := by decide +kernel
theorem dX1_goesByMade_11 : decode cX1_goesByMade 11 = .ok (.getfield 38, 3) := by decide +kernel
theorem dX1_goesByMade_14 : decode cX1_goesByMade 14 = .ok (.ifCond .eq 28, 3) := by decide +kernel
theorem dX1_goesByMade_17 : decode cX1_goesByMade 17 = .ok (.aload_n 0, 1) := by decide +kernel
theorem dX1_goesByMade_18 : decode cX1_goesByMade 18 = .ok (.getfield 25, 3) := by decide +kernel
theorem dX1_goesByMade_21 : decode cX1_goesByMade 21 = .ok (.ifCond .lt 21, 3) := by decide +kernel
theorem dX1_goesByMade_24 : decode cX1_goesByMade 24 = .ok (.aload_n 0, 1) := by decide +kernel
theorem dX1_goesByMade_25 : decode cX1_goesByMade 25 = .ok (.getfield 25, 3) := by decide +kernel
theorem dX1_goesByMade_28 : decode cX1_goesByMade 28 = .ok (.aload_n 0, 1) := by decide +kernel
theorem dX1_goesByMade_29 : decode cX1_goesByMade 29 = .ok (.getfield 34, 3) := by decide +kernel
theorem dX1_goesByMade_32 : decode cX1_goesByMade 32 = .ok (.getfield 44, 3) := by decide +kernel
theorem dX1_goesByMade_35 : decode cX1_goesByMade 35 = .ok (.if_icmp .ge 7, 3) := by decide +kernel
theorem dX1_goesByMade_38 : decode cX1_goesByMade 38 = .ok (.iconst 1, 1) := by decide +kernel
theorem dX1_goesByMade_39 : decode cX1_goesByMade 39 = .ok (.goto 4, 3) := by decide +kernel
theorem dX1_goesByMade_42 : decode cX1_goesByMade 42 = .ok (.iconst 0, 1) := by decide +kernel
theorem dX1_goesByMade_43 : decode cX1_goesByMade 43 = .ok (.ireturn, 1) := by decide +kernel
theorem dX2_init_0 : decode cX2_init 0 = .ok (.aload_n 0, 1) := by decide +kernel
theorem dX2_init_1 : decode cX2_init 1 = .ok (.invokespecial 3, 3) := by decide +kernel
theorem dX2_init_4 : decode cX2_init 4 = .ok (.aload_n 0, 1) := by decide +kernel
theorem dX2_init_5 : decode cX2_init 5 = .ok (.sipush 660, 3) := by decide +kernel
theorem dX2_init_8 : decode cX2_init 8 = .ok (.newarray .int, 2) := by decide +kernel
theorem dX2_init_10 : decode cX2_init 10 = .ok (.putfield 13, 3) := by decide +kernel
theorem dX2_init_13 : decode cX2_init 13 = .ok (.return_, 1) := by decide +kernel
theorem dX2_readAhead_0 : decode cX2_readAhead 0 = .ok (.aload_n 0, 1) := by decide +kernel
theorem dX2_readAhead_1 : decode cX2_readAhead 1 = .ok (.iload_n 2, 1) := by decide +kernel
theorem dX2_readAhead_2 : decode cX2_readAhead 2 = .ok (.putfield 17, 3) := by decide +kernel
theorem dX2_readAhead_5 : decode cX2_readAhead 5 = .ok (.aload_n 0, 1) := by decide +kernel
theorem dX2_readAhead_6 : decode cX2_readAhead 6 = .ok (.iconst 0, 1) := by decide +kernel
theorem dX2_readAhead_7 : decode cX2_readAhead 7 = .ok (.putfield 21, 3) := by decide +kernel
theorem dX2_readAhead_10 : decode cX2_readAhead 10 = .ok (.iconst 1, 1) := by decide +kernel
theorem dX2_readAhead_11 : decode cX2_readAhead 11 = .ok (.istore_n 3, 1) := by decide +kernel
theorem dX2_readAhead_12 : decode cX2_readAhead 12 = .ok (.iconst 0, 1) := by decide +kernel
theorem dX2_readAhead_13 : decode cX2_readAhead 13 = .ok (.istore 4, 2) := by decide +kernel
theorem dX2_readAhead_15 : decode cX2_readAhead 15 = .ok (.iload 4, 2) := by decide +kernel
theorem dX2_readAhead_17 : decode cX2_readAhead 17 = .ok (.bipush 60, 2) := by decide +kernel
theorem dX2_readAhead_19 : decode cX2_readAhead 19 = .ok (.if_icmp .ge 107, 3) := by decide +kernel
theorem dX2_readAhead_22 : decode cX2_readAhead 22 = .ok (.iload 4, 2) := by decide +kernel
theorem dX2_readAhead_24 : decode cX2_readAhead 24 = .ok (.bipush 11, 2) := by decide +kernel
theorem dX2_readAhead_26 : decode cX2_readAhead 26 = .ok (.imul, 1) := by decide +kernel
theorem dX2_readAhead_27 : decode cX2_readAhead 27 = .ok (.istore 5, 2) := by decide +kernel
theorem dX2_readAhead_29 : decode cX2_readAhead 29 = .ok (.aload_n 1, 1) := by decide +kernel
theorem dX2_readAhead_30 : decode cX2_readAhead 30 = .ok (.iload_n 2, 1) := by decide +kernel
theorem dX2_readAhead_31 : decode cX2_readAhead 31 = .ok (.iload_n 3, 1) := by decide +kernel
theorem dX2_readAhead_32 : decode cX2_readAhead 32 = .ok (.iadd, 1) := by decide +kernel
theorem dX2_readAhead_33 : decode cX2_readAhead 33 = .ok (.aload_n 1, 1) := by decide +kernel
theorem dX2_readAhead_34 : decode cX2_readAhead 34 = .ok (.getfield 24, 3) := by decide +kernel
theorem dX2_readAhead_37 : decode cX2_readAhead 37 = .ok (.iload_n 2, 1) := by decide +kernel
theorem dX2_readAhead_38 : decode cX2_readAhead 38 = .ok (.iaload, 1) := by decide +kernel
theorem dX2_readAhead_39 : decode cX2_readAhead 39 = .ok (.aload_n 0, 1) := by decide +kernel
theorem dX2_readAhead_40 : decode cX2_readAhead 40 = .ok (.getfield 13, 3) := by decide +kernel
theorem dX2_readAhead_43 : decode cX2_readAhead 43 = .ok (.iload 5, 2) := by decide +kernel
theorem dX2_readAhead_45 : decode cX2_readAhead 45 = .ok (.invokevirtual 29, 3) := by decide +kernel
theorem dX2_readAhead_48 : decode cX2_readAhead 48 = .ok (.ifCond .eq 5, 3) := by decide +kernel
theorem dX2_readAhead_51 : decode cX2_readAhead 51 = .ok (.iload_n 3, 1) := by decide +kernel
theorem dX2_readAhead_52 : decode cX2_readAhead 52 = .ok (.ireturn, 1) := by decide +kernel
theorem dX2_readAhead_53 : decode cX2_readAhead 53 = .ok (.aload_n 0, 1) := by decide +kernel
theorem dX2_readAhead_54 : decode cX2_readAhead 54 = .ok (.getfield 13, 3) := by decide +kernel
theorem dX2_readAhead_57 : decode cX2_readAhead 57 = .ok (.iload 5, 2) := by decide +kernel
theorem dX2_readAhead_59 : decode cX2_readAhead 59 = .ok (.bipush 9, 2) := by decide +kernel
theorem dX2_readAhead_61 : decode cX2_readAhead 61 = .ok (.iadd, 1) := by decide +kernel
theorem dX2_readAhead_62 : decode cX2_readAhead 62 = .ok (.iload_n 3, 1) := by decide +kernel
theorem dX2_readAhead_63 : decode cX2_readAhead 63 = .ok (.iastore, 1) := by decide +kernel
theorem dX2_readAhead_64 : decode cX2_readAhead 64 = .ok (.aload_n 0, 1) := by decide +kernel
theorem dX2_readAhead_65 : decode cX2_readAhead 65 = .ok (.getfield 13, 3) := by decide +kernel
theorem dX2_readAhead_68 : decode cX2_readAhead 68 = .ok (.iload 5, 2) := by decide +kernel
theorem dX2_readAhead_70 : decode cX2_readAhead 70 = .ok (.iaload, 1) := by decide +kernel
theorem dX2_readAhead_71 : decode cX2_readAhead 71 = .ok (.bipush 15, 2) := by decide +kernel
theorem dX2_readAhead_73 : decode cX2_readAhead 73 = .ok (.if_icmp .ne 34, 3) := by decide +kernel
theorem dX2_readAhead_76 : decode cX2_readAhead 76 = .ok (.aload_n 0, 1) := by decide +kernel
theorem dX2_readAhead_77 : decode cX2_readAhead 77 = .ok (.iload 4, 2) := by decide +kernel
theorem dX2_readAhead_79 : decode cX2_readAhead 79 = .ok (.iconst 1, 1) := by decide +kernel
theorem dX2_readAhead_80 : decode cX2_readAhead 80 = .ok (.iadd, 1) := by decide +kernel
theorem dX2_readAhead_81 : decode cX2_readAhead 81 = .ok (.putfield 21, 3) := by decide +kernel
theorem dX2_readAhead_84 : decode cX2_readAhead 84 = .ok (.aload_n 0, 1) := by decide +kernel
theorem dX2_readAhead_85 : decode cX2_readAhead 85 = .ok (.iload_n 2, 1) := by decide +kernel
theorem dX2_readAhead_86 : decode cX2_readAhead 86 = .ok (.bipush 64, 2) := by decide +kernel
theorem dX2_readAhead_88 : decode cX2_readAhead 88 = .ok (.idiv, 1) := by decide +kernel
theorem dX2_readAhead_89 : decode cX2_readAhead 89 = .ok (.putfield 35, 3) := by decide +kernel
theorem dX2_readAhead_92 : decode cX2_readAhead 92 = .ok (.aload_n 0, 1) := by decide +kernel
theorem dX2_readAhead_93 : decode cX2_readAhead 93 = .ok (.iload_n 2, 1) := by decide +kernel
theorem dX2_readAhead_94 : decode cX2_readAhead 94 = .ok (.iload_n 3, 1) := by decide +kernel
theorem dX2_readAhead_95 : decode cX2_readAhead 95 = .ok (.iadd, 1) := by decide +kernel
theorem dX2_readAhead_96 : decode cX2_readAhead 96 = .ok (.bipush 64, 2) := by decide +kernel
theorem dX2_readAhead_98 : decode cX2_readAhead 98 = .ok (.idiv, 1) := by decide +kernel
theorem dX2_readAhead_99 : decode cX2_readAhead 99 = .ok (.putfield 38, 3) := by decide +kernel
theorem dX2_readAhead_102 : decode cX2_readAhead 102 = .ok (.aload_n 0, 1) := by decide +kernel
theorem dX2_readAhead_103 : decode cX2_readAhead 103 = .ok (.invokevirtual 41, 3) := by decide +kernel
theorem dX2_readAhead_106 : decode cX2_readAhead 106 = .ok (.ireturn, 1) := by decide +kernel
theorem dX2_readAhead_107 : decode cX2_readAhead 107 = .ok (.iload_n 3, 1) := by decide +kernel
theorem dX2_readAhead_108 : decode cX2_readAhead 108 = .ok (.aload_n 0, 1) := by decide +kernel
theorem dX2_readAhead_109 : decode cX2_readAhead 109 = .ok (.getfield 13, 3) := by decide +kernel
theorem dX2_readAhead_112 : decode cX2_readAhead 112 = .ok (.iload 5, 2) := by decide +kernel
theorem dX2_readAhead_114 : decode cX2_readAhead 114 = .ok (.bipush 8, 2) := by decide +kernel
theorem dX2_readAhead_116 : decode cX2_readAhead 116 = .ok (.iadd, 1) := by decide +kernel
theorem dX2_readAhead_117 : decode cX2_readAhead 117 = .ok (.iaload, 1) := by decide +kernel
theorem dX2_readAhead_118 : decode cX2_readAhead 118 = .ok (.iadd, 1) := by decide +kernel
theorem dX2_readAhead_119 : decode cX2_readAhead 119 = .ok (.istore_n 3, 1) := by decide +kernel
theorem dX2_readAhead_120 : decode cX2_readAhead 120 = .ok (.iinc 4 1, 3) := by decide +kernel
theorem dX2_readAhead_123 : decode cX2_readAhead 123 = .ok (.goto (-108), 3) := by decide +kernel
theorem dX2_readAhead_126 : decode cX2_readAhead 126 = .ok (.iload_n 3, 1) := by decide +kernel
theorem dX2_readAhead_127 : decode cX2_readAhead 127 = .ok (.ireturn, 1) := by decide +kernel
theorem dX2_linkTargets_0 : decode cX2_linkTargets 0 = .ok (.iconst 0, 1) := by decide +kernel
theorem dX2_linkTargets_1 : decode cX2_linkTargets 1 = .ok (.istore_n 1, 1) := by decide +kernel
theorem dX2_linkTargets_2 : decode cX2_linkTargets 2 = .ok (.iload_n 1, 1) := by decide +kernel
theorem dX2_linkTargets_3 : decode cX2_linkTargets 3 = .ok (.aload_n 0, 1) := by decide +kernel
theorem dX2_linkTargets_4 : decode cX2_linkTargets 4 = .ok (.getfield 21, 3) := by decide +kernel
theorem dX2_linkTargets_7 : decode cX2_linkTargets 7 = .ok (.if_icmp .ge 92, 3) := by decide +kernel
theorem dX2_linkTargets_10 : decode cX2_linkTargets 10 = .ok (.iload_n 1, 1) := by decide +kernel
theorem dX2_linkTargets_11 : decode cX2_linkTargets 11 = .ok (.bipush 11, 2) := by decide +kernel
theorem dX2_linkTargets_13 : decode cX2_linkTargets 13 = .ok (.imul, 1) := by decide +kernel
theorem dX2_linkTargets_14 : decode cX2_linkTargets 14 = .ok (.istore_n 2, 1) := by decide +kernel
theorem dX2_linkTargets_15 : decode cX2_linkTargets 15 = .ok (.aload_n 0, 1) := by decide +kernel
theorem dX2_linkTargets_16 : decode cX2_linkTargets 16 = .ok (.getfield 13, 3) := by decide +kernel
theorem dX2_linkTargets_19 : decode cX2_linkTargets 19 = .ok (.iload_n 2, 1) := by decide +kernel
theorem dX2_linkTargets_20 : decode cX2_linkTargets 20 = .ok (.iaload, 1) := by decide +kernel
theorem dX2_linkTargets_21 : decode cX2_linkTargets 21 = .ok (.invokestatic 45, 3) := by decide +kernel
theorem dX2_linkTargets_24 : decode cX2_linkTargets 24 = .ok (.istore_n 3, 1) := by decide +kernel
theorem dX2_linkTargets_25 : decode cX2_linkTargets 25 = .ok (.iload_n 3, 1) := by decide +kernel
theorem dX2_linkTargets_26 : decode cX2_linkTargets 26 = .ok (.ifCond .ne 6, 3) := by decide +kernel
theorem dX2_linkTargets_29 : decode cX2_linkTargets 29 = .ok (.goto 64, 3) := by decide +kernel
theorem dX2_linkTargets_32 : decode cX2_linkTargets 32 = .ok (.aload_n 0, 1) := by decide +kernel
theorem dX2_linkTargets_33 : decode cX2_linkTargets 33 = .ok (.getfield 13, 3) := by decide +kernel
theorem dX2_linkTargets_36 : decode cX2_linkTargets 36 = .ok (.iload_n 2, 1) := by decide +kernel
theorem dX2_linkTargets_37 : decode cX2_linkTargets 37 = .ok (.iload_n 3, 1) := by decide +kernel
theorem dX2_linkTargets_38 : decode cX2_linkTargets 38 = .ok (.iadd, 1) := by decide +kernel
theorem dX2_linkTargets_39 : decode cX2_linkTargets 39 = .ok (.iaload, 1) := by decide +kernel
theorem dX2_linkTargets_40 : decode cX2_linkTargets 40 = .ok (.istore 4, 2) := by decide +kernel
theorem dX2_linkTargets_42 : decode cX2_linkTargets 42 = .ok (.aload_n 0, 1) := by decide +kernel
theorem dX2_linkTargets_43 : decode cX2_linkTargets 43 = .ok (.iload 4, 2) := by decide +kernel
theorem dX2_linkTargets_45 : decode cX2_linkTargets 45 = .ok (.invokevirtual 49, 3) := by decide +kernel
theorem dX2_linkTargets_48 : decode cX2_linkTargets 48 = .ok (.istore 5, 2) := by decide +kernel
theorem dX2_linkTargets_50 : decode cX2_linkTargets 50 = .ok (.iload 5, 2) := by decide +kernel
theorem dX2_linkTargets_52 : decode cX2_linkTargets 52 = .ok (.iconst (-1), 1) := by decide +kernel
theorem dX2_linkTargets_53 : decode cX2_linkTargets 53 = .ok (.if_icmp .ne 29, 3) := by decide +kernel
theorem dX2_linkTargets_56 : decode cX2_linkTargets 56 = .ok (.aload_n 0, 1) := by decide +kernel
theorem dX2_linkTargets_57 : decode cX2_linkTargets 57 = .ok (.getfield 13, 3) := by decide +kernel
theorem dX2_linkTargets_60 : decode cX2_linkTargets 60 = .ok (.iload_n 2, 1) := by decide +kernel
theorem dX2_linkTargets_61 : decode cX2_linkTargets 61 = .ok (.iaload, 1) := by decide +kernel
theorem dX2_linkTargets_62 : decode cX2_linkTargets 62 = .ok (.bipush 14, 2) := by decide +kernel
theorem dX2_linkTargets_64 : decode cX2_linkTargets 64 = .ok (.if_icmp .ne 8, 3) := by decide +kernel
theorem dX2_linkTargets_67 : decode cX2_linkTargets 67 = .ok (.iload 4, 2) := by decide +kernel
theorem dX2_linkTargets_69 : decode cX2_linkTargets 69 = .ok (.ifCond .eq 13, 3) := by decide +kernel
theorem dX2_linkTargets_72 : decode cX2_linkTargets 72 = .ok (.aload_n 0, 1) := by decide +kernel
theorem dX2_linkTargets_73 : decode cX2_linkTargets 73 = .ok (.getfield 13, 3) := by decide +kernel
theorem dX2_linkTargets_76 : decode cX2_linkTargets 76 = .ok (.iload_n 2, 1) := by decide +kernel
theorem dX2_linkTargets_77 : decode cX2_linkTargets 77 = .ok (.bipush 9, 2) := by decide +kernel
theorem dX2_linkTargets_79 : decode cX2_linkTargets 79 = .ok (.iadd, 1) := by decide +kernel
theorem dX2_linkTargets_80 : decode cX2_linkTargets 80 = .ok (.iaload, 1) := by decide +kernel
theorem dX2_linkTargets_81 : decode cX2_linkTargets 81 = .ok (.ireturn, 1) := by decide +kernel
theorem dX2_linkTargets_82 : decode cX2_linkTargets 82 = .ok (.aload_n 0, 1) := by decide +kernel
theorem dX2_linkTargets_83 : decode cX2_linkTargets 83 = .ok (.getfield 13, 3) := by decide +kernel
theorem dX2_linkTargets_86 : decode cX2_linkTargets 86 = .ok (.iload_n 2, 1) := by decide +kernel
theorem dX2_linkTargets_87 : decode cX2_linkTargets 87 = .ok (.bipush 10, 2) := by decide +kernel
theorem dX2_linkTargets_89 : decode cX2_linkTargets 89 = .ok (.iadd, 1) := by decide +kernel
theorem dX2_linkTargets_90 : decode cX2_linkTargets 90 = .ok (.iload 5, 2) := by decide +kernel
theorem dX2_linkTargets_92 : decode cX2_linkTargets 92 = .ok (.iastore, 1) := by decide +kernel
theorem dX2_linkTargets_93 : decode cX2_linkTargets 93 = .ok (.iinc 1 1, 3) := by decide +kernel
theorem dX2_linkTargets_96 : decode cX2_linkTargets 96 = .ok (.goto (-94), 3) := by decide +kernel
theorem dX2_linkTargets_99 : decode cX2_linkTargets 99 = .ok (.iconst (-1), 1) := by decide +kernel
theorem dX2_linkTargets_100 : decode cX2_linkTargets 100 = .ok (.ireturn, 1) := by decide +kernel
theorem dX2_indexOf_0 : decode cX2_indexOf 0 = .ok (.iconst 0, 1) := by decide +kernel
theorem dX2_indexOf_1 : decode cX2_indexOf 1 = .ok (.istore_n 2, 1) := by decide +kernel
theorem dX2_indexOf_2 : decode cX2_indexOf 2 = .ok (.iload_n 2, 1) := by decide +kernel
theorem dX2_indexOf_3 : decode cX2_indexOf 3 = .ok (.aload_n 0, 1) := by decide +kernel
theorem dX2_indexOf_4 : decode cX2_indexOf 4 = .ok (.getfield 21, 3) := by decide +kernel
theorem dX2_indexOf_7 : decode cX2_indexOf 7 = .ok (.if_icmp .ge 27, 3) := by decide +kernel
theorem dX2_indexOf_10 : decode cX2_indexOf 10 = .ok (.aload_n 0, 1) := by decide +kernel
theorem dX2_indexOf_11 : decode cX2_indexOf 11 = .ok (.getfield 13, 3) := by decide +kernel
theorem dX2_indexOf_14 : decode cX2_indexOf 14 = .ok (.iload_n 2, 1) := by decide +kernel
theorem dX2_indexOf_15 : decode cX2_indexOf 15 = .ok (.bipush 11, 2) := by decide +kernel
theorem dX2_indexOf_17 : decode cX2_indexOf 17 = .ok (.imul, 1) := by decide +kernel
theorem dX2_indexOf_18 : decode cX2_indexOf 18 = .ok (.bipush 9, 2) := by decide +kernel
theorem dX2_indexOf_20 : decode cX2_indexOf 20 = .ok (.iadd, 1) := by decide +kernel
theorem dX2_indexOf_21 : decode cX2_indexOf 21 = .ok (.iaload, 1) := by decide +kernel
theorem dX2_indexOf_22 : decode cX2_indexOf 22 = .ok (.iload_n 1, 1) := by decide +kernel
theorem dX2_indexOf_23 : decode cX2_indexOf 23 = .ok (.if_icmp .ne 5, 3) := by decide +kernel
theorem dX2_indexOf_26 : decode cX2_indexOf 26 = .ok (.iload_n 2, 1) := by decide +kernel
theorem dX2_indexOf_27 : decode cX2_indexOf 27 = .ok (.ireturn, 1) := by decide +kernel
theorem dX2_indexOf_28 : decode cX2_indexOf 28 = .ok (.iinc 2 1, 3) := by decide +kernel
theorem dX2_indexOf_31 : decode cX2_indexOf 31 = .ok (.goto (-29), 3) := by decide +kernel
theorem dX2_indexOf_34 : decode cX2_indexOf 34 = .ok (.iconst (-1), 1) := by decide +kernel
theorem dX2_indexOf_35 : decode cX2_indexOf 35 = .ok (.ireturn, 1) := by decide +kernel
theorem dX2_hasPage_0 : decode cX2_hasPage 0 = .ok (.iload_n 1, 1) := by decide +kernel
theorem dX2_hasPage_1 : decode cX2_hasPage 1 = .ok (.aload_n 0, 1) := by decide +kernel
theorem dX2_hasPage_2 : decode cX2_hasPage 2 = .ok (.getfield 35, 3) := by decide +kernel
theorem dX2_hasPage_5 : decode cX2_hasPage 5 = .ok (.if_icmp .lt 15, 3) := by decide +kernel
theorem dX2_hasPage_8 : decode cX2_hasPage 8 = .ok (.iload_n 1, 1) := by decide +kernel
theorem dX2_hasPage_9 : decode cX2_hasPage 9 = .ok (.aload_n 0, 1) := by decide +kernel
theorem dX2_hasPage_10 : decode cX2_hasPage 10 = .ok (.getfield 38, 3) := by decide +kernel
theorem dX2_hasPage_13 : decode cX2_hasPage 13 = .ok (.if_icmp .gt 7, 3) := by decide +kernel
theorem dX2_hasPage_16 : decode cX2_hasPage 16 = .ok (.iconst 1, 1) := by decide +kernel
theorem dX2_hasPage_17 : decode cX2_hasPage 17 = .ok (.goto 4, 3) := by decide +kernel
theorem dX2_hasPage_20 : decode cX2_hasPage 20 = .ok (.iconst 0, 1) := by decide +kernel
theorem dX2_hasPage_21 : decode cX2_hasPage 21 = .ok (.ireturn, 1) := by decide +kernel
theorem dX3_init_0 : decode cX3_init 0 = .ok (.aload_n 0, 1) := by decide +kernel
theorem dX3_init_1 : decode cX3_init 1 = .ok (.invokespecial 3, 3) := by decide +kernel
theorem dX3_init_4 : decode cX3_init 4 = .ok (.aload_n 0, 1) := by decide +kernel
theorem dX3_init_5 : decode cX3_init 5 = .ok (.sipush 1024, 3) := by decide +kernel
theorem dX3_init_8 : decode cX3_init 8 = .ok (.newarray .int, 2) := by decide +kernel
theorem dX3_init_10 : decode cX3_init 10 = .ok (.putfield 9, 3) := by decide +kernel
theorem dX3_init_13 : decode cX3_init 13 = .ok (.aload_n 0, 1) := by decide +kernel
theorem dX3_init_14 : decode cX3_init 14 = .ok (.aload_n 1, 1) := by decide +kernel
theorem dX3_init_15 : decode cX3_init 15 = .ok (.putfield 15, 3) := by decide +kernel
theorem dX3_init_18 : decode cX3_init 18 = .ok (.return_, 1) := by decide +kernel
theorem dX3_hasRoutine_0 : decode cX3_hasRoutine 0 = .ok (.aload_n 0, 1) := by decide +kernel
theorem dX3_hasRoutine_1 : decode cX3_hasRoutine 1 = .ok (.getfield 9, 3) := by decide +kernel
theorem dX3_hasRoutine_4 : decode cX3_hasRoutine 4 = .ok (.iload_n 1, 1) := by decide +kernel
theorem dX3_hasRoutine_5 : decode cX3_hasRoutine 5 = .ok (.iaload, 1) := by decide +kernel
theorem dX3_hasRoutine_6 : decode cX3_hasRoutine 6 = .ok (.bipush 8, 2) := by decide +kernel
theorem dX3_hasRoutine_8 : decode cX3_hasRoutine 8 = .ok (.if_icmp .gt 7, 3) := by decide +kernel
theorem dX3_hasRoutine_11 : decode cX3_hasRoutine 11 = .ok (.iconst 1, 1) := by decide +kernel
theorem dX3_hasRoutine_12 : decode cX3_hasRoutine 12 = .ok (.goto 4, 3) := by decide +kernel
theorem dX3_hasRoutine_15 : decode cX3_hasRoutine 15 = .ok (.iconst 0, 1) := by decide +kernel
theorem dX3_hasRoutine_16 : decode cX3_hasRoutine 16 = .ok (.ireturn, 1) := by decide +kernel
theorem dX3_change_0 : decode cX3_change 0 = .ok (.iload_n 2, 1) := by decide +kernel
theorem dX3_change_1 : decode cX3_change 1 = .ok (.sipush 255, 3) := by decide +kernel
theorem dX3_change_4 : decode cX3_change 4 = .ok (.iand, 1) := by decide +kernel
theorem dX3_change_5 : decode cX3_change 5 = .ok (.istore_n 3, 1) := by decide +kernel
theorem dX3_change_6 : decode cX3_change 6 = .ok (.aload_n 0, 1) := by decide +kernel
theorem dX3_change_7 : decode cX3_change 7 = .ok (.getfield 9, 3) := by decide +kernel
theorem dX3_change_10 : decode cX3_change 10 = .ok (.iload_n 1, 1) := by decide +kernel
theorem dX3_change_11 : decode cX3_change 11 = .ok (.iaload, 1) := by decide +kernel
theorem dX3_change_12 : decode cX3_change 12 = .ok (.iload_n 3, 1) := by decide +kernel
theorem dX3_change_13 : decode cX3_change 13 = .ok (.if_icmp .ne 5, 3) := by decide +kernel
theorem dX3_change_16 : decode cX3_change 16 = .ok (.iconst 0, 1) := by decide +kernel
theorem dX3_change_17 : decode cX3_change 17 = .ok (.ireturn, 1) := by decide +kernel
theorem dX3_change_18 : decode cX3_change 18 = .ok (.aload_n 0, 1) := by decide +kernel
theorem dX3_change_19 : decode cX3_change 19 = .ok (.getfield 9, 3) := by decide +kernel
theorem dX3_change_22 : decode cX3_change 22 = .ok (.iload_n 1, 1) := by decide +kernel
theorem dX3_change_23 : decode cX3_change 23 = .ok (.iload_n 3, 1) := by decide +kernel
theorem dX3_change_24 : decode cX3_change 24 = .ok (.iastore, 1) := by decide +kernel
theorem dX3_change_25 : decode cX3_change 25 = .ok (.aload_n 0, 1) := by decide +kernel
theorem dX3_change_26 : decode cX3_change 26 = .ok (.getfield 15, 3) := by decide +kernel
theorem dX3_change_29 : decode cX3_change 29 = .ok (.iload_n 1, 1) := by decide +kernel
theorem dX3_change_30 : decode cX3_change 30 = .ok (.bipush 64, 2) := by decide +kernel
theorem dX3_change_32 : decode cX3_change 32 = .ok (.idiv, 1) := by decide +kernel
theorem dX3_change_33 : decode cX3_change 33 = .ok (.invokevirtual 19, 3) := by decide +kernel
theorem dX3_change_36 : decode cX3_change 36 = .ok (.ireturn, 1) := by decide +kernel
theorem dX3_read_0 : decode cX3_read 0 = .ok (.iload_n 1, 1) := by decide +kernel
theorem dX3_read_1 : decode cX3_read 1 = .ok (.invokestatic 25, 3) := by decide +kernel
theorem dX3_read_4 : decode cX3_read 4 = .ok (.ifCond .ne 5, 3) := by decide +kernel
theorem dX3_read_7 : decode cX3_read 7 = .ok (.iconst 1, 1) := by decide +kernel
theorem dX3_read_8 : decode cX3_read 8 = .ok (.ireturn, 1) := by decide +kernel
theorem dX3_read_9 : decode cX3_read 9 = .ok (.aload_n 0, 1) := by decide +kernel
theorem dX3_read_10 : decode cX3_read 10 = .ok (.getfield 9, 3) := by decide +kernel
theorem dX3_read_13 : decode cX3_read 13 = .ok (.iload_n 1, 1) := by decide +kernel
theorem dX3_read_14 : decode cX3_read 14 = .ok (.iaload, 1) := by decide +kernel
theorem dX3_read_15 : decode cX3_read 15 = .ok (.invokestatic 29, 3) := by decide +kernel
theorem dX3_read_18 : decode cX3_read 18 = .ok (.ifCond .ne 6, 3) := by decide +kernel
theorem dX3_read_21 : decode cX3_read 21 = .ok (.bipush 7, 2) := by decide +kernel
theorem dX3_read_23 : decode cX3_read 23 = .ok (.ireturn, 1) := by decide +kernel
theorem dX3_read_24 : decode cX3_read 24 = .ok (.aload_n 3, 1) := by decide +kernel
theorem dX3_read_25 : decode cX3_read 25 = .ok (.iload 4, 2) := by decide +kernel
theorem dX3_read_27 : decode cX3_read 27 = .ok (.aload_n 0, 1) := by decide +kernel
theorem dX3_read_28 : decode cX3_read 28 = .ok (.getfield 9, 3) := by decide +kernel
theorem dX3_read_31 : decode cX3_read 31 = .ok (.iload_n 1, 1) := by decide +kernel
theorem dX3_read_32 : decode cX3_read 32 = .ok (.iaload, 1) := by decide +kernel
theorem dX3_read_33 : decode cX3_read 33 = .ok (.iastore, 1) := by decide +kernel
theorem dX3_read_34 : decode cX3_read 34 = .ok (.aload_n 0, 1) := by decide +kernel
theorem dX3_read_35 : decode cX3_read 35 = .ok (.getfield 9, 3) := by decide +kernel
theorem dX3_read_38 : decode cX3_read 38 = .ok (.iload_n 1, 1) := by decide +kernel
theorem dX3_read_39 : decode cX3_read 39 = .ok (.iaload, 1) := by decide +kernel
theorem dX3_read_40 : decode cX3_read 40 = .ok (.invokestatic 34, 3) := by decide +kernel
theorem dX3_read_43 : decode cX3_read 43 = .ok (.istore 5, 2) := by decide +kernel
theorem dX3_read_45 : decode cX3_read 45 = .ok (.iconst 1, 1) := by decide +kernel
theorem dX3_read_46 : decode cX3_read 46 = .ok (.istore 6, 2) := by decide +kernel
theorem dX3_read_48 : decode cX3_read 48 = .ok (.iload 5, 2) := by decide +kernel
theorem dX3_read_50 : decode cX3_read 50 = .ok (.ifCond .eq 71, 3) := by decide +kernel
theorem dX3_read_53 : decode cX3_read 53 = .ok (.iload 6, 2) := by decide +kernel
theorem dX3_read_55 : decode cX3_read 55 = .ok (.bipush 8, 2) := by decide +kernel
theorem dX3_read_57 : decode cX3_read 57 = .ok (.if_icmp .ge 64, 3) := by decide +kernel
theorem dX3_read_60 : decode cX3_read 60 = .ok (.iload_n 1, 1) := by decide +kernel
theorem dX3_read_61 : decode cX3_read 61 = .ok (.iload 6, 2) := by decide +kernel
theorem dX3_read_63 : decode cX3_read 63 = .ok (.iadd, 1) := by decide +kernel
theorem dX3_read_64 : decode cX3_read 64 = .ok (.invokestatic 25, 3) := by decide +kernel
theorem dX3_read_67 : decode cX3_read 67 = .ok (.ifCond .ne 5, 3) := by decide +kernel
theorem dX3_read_70 : decode cX3_read 70 = .ok (.iconst 1, 1) := by decide +kernel
theorem dX3_read_71 : decode cX3_read 71 = .ok (.ireturn, 1) := by decide +kernel
theorem dX3_read_72 : decode cX3_read 72 = .ok (.aload_n 0, 1) := by decide +kernel
theorem dX3_read_73 : decode cX3_read 73 = .ok (.getfield 9, 3) := by decide +kernel
theorem dX3_read_76 : decode cX3_read 76 = .ok (.iload_n 1, 1) := by decide +kernel
theorem dX3_read_77 : decode cX3_read 77 = .ok (.iload 6, 2) := by decide +kernel
theorem dX3_read_79 : decode cX3_read 79 = .ok (.iadd, 1) := by decide +kernel
theorem dX3_read_80 : decode cX3_read 80 = .ok (.iaload, 1) := by decide +kernel
theorem dX3_read_81 : decode cX3_read 81 = .ok (.istore 7, 2) := by decide +kernel
theorem dX3_read_83 : decode cX3_read 83 = .ok (.iload 5, 2) := by decide +kernel
theorem dX3_read_85 : decode cX3_read 85 = .ok (.iload 7, 2) := by decide +kernel
theorem dX3_read_87 : decode cX3_read 87 = .ok (.iload_n 2, 1) := by decide +kernel
theorem dX3_read_88 : decode cX3_read 88 = .ok (.invokestatic 39, 3) := by decide +kernel
theorem dX3_read_91 : decode cX3_read 91 = .ok (.ifCond .ne 6, 3) := by decide +kernel
theorem dX3_read_94 : decode cX3_read 94 = .ok (.bipush 7, 2) := by decide +kernel
theorem dX3_read_96 : decode cX3_read 96 = .ok (.ireturn, 1) := by decide +kernel
theorem dX3_read_97 : decode cX3_read 97 = .ok (.aload_n 3, 1) := by decide +kernel
theorem dX3_read_98 : decode cX3_read 98 = .ok (.iload 4, 2) := by decide +kernel
theorem dX3_read_100 : decode cX3_read 100 = .ok (.iload 6, 2) := by decide +kernel
theorem dX3_read_102 : decode cX3_read 102 = .ok (.iadd, 1) := by decide +kernel
theorem dX3_read_103 : decode cX3_read 103 = .ok (.iload 7, 2) := by decide +kernel
theorem dX3_read_105 : decode cX3_read 105 = .ok (.iastore, 1) := by decide +kernel
theorem dX3_read_106 : decode cX3_read 106 = .ok (.iload 5, 2) := by decide +kernel
theorem dX3_read_108 : decode cX3_read 108 = .ok (.iload 7, 2) := by decide +kernel
theorem dX3_read_110 : decode cX3_read 110 = .ok (.invokestatic 43, 3) := by decide +kernel
theorem dX3_read_113 : decode cX3_read 113 = .ok (.istore 5, 2) := by decide +kernel
theorem dX3_read_115 : decode cX3_read 115 = .ok (.iinc 6 1, 3) := by decide +kernel
theorem dX3_read_118 : decode cX3_read 118 = .ok (.goto (-70), 3) := by decide +kernel
theorem dX3_read_121 : decode cX3_read 121 = .ok (.aload_n 3, 1) := by decide +kernel
theorem dX3_read_122 : decode cX3_read 122 = .ok (.iload 4, 2) := by decide +kernel
theorem dX3_read_124 : decode cX3_read 124 = .ok (.bipush 8, 2) := by decide +kernel
theorem dX3_read_126 : decode cX3_read 126 = .ok (.iadd, 1) := by decide +kernel
theorem dX3_read_127 : decode cX3_read 127 = .ok (.iload 6, 2) := by decide +kernel
theorem dX3_read_129 : decode cX3_read 129 = .ok (.iastore, 1) := by decide +kernel
theorem dX3_read_130 : decode cX3_read 130 = .ok (.iconst 0, 1) := by decide +kernel
theorem dX3_read_131 : decode cX3_read 131 = .ok (.ireturn, 1) := by decide +kernel
theorem dX4_init_0 : decode cX4_init 0 = .ok (.aload_n 0, 1) := by decide +kernel
theorem dX4_init_1 : decode cX4_init 1 = .ok (.invokespecial 3, 3) := by decide +kernel
theorem dX4_init_4 : decode cX4_init 4 = .ok (.aload_n 0, 1) := by decide +kernel
theorem dX4_init_5 : decode cX4_init 5 = .ok (.iconst (-1), 1) := by decide +kernel
theorem dX4_init_6 : decode cX4_init 6 = .ok (.putfield 9, 3) := by decide +kernel
theorem dX4_init_9 : decode cX4_init 9 = .ok (.aload_n 0, 1) := by decide +kernel
theorem dX4_init_10 : decode cX4_init 10 = .ok (.iconst (-1), 1) := by decide +kernel
theorem dX4_init_11 : decode cX4_init 11 = .ok (.putfield 15, 3) := by decide +kernel
theorem dX4_init_14 : decode cX4_init 14 = .ok (.return_, 1) := by decide +kernel
theorem dX4_clear_0 : decode cX4_clear 0 = .ok (.aload_n 0, 1) := by decide +kernel
theorem dX4_clear_1 : decode cX4_clear 1 = .ok (.iconst 0, 1) := by decide +kernel
theorem dX4_clear_2 : decode cX4_clear 2 = .ok (.putfield 18, 3) := by decide +kernel
theorem dX4_clear_5 : decode cX4_clear 5 = .ok (.aload_n 0, 1) := by decide +kernel
theorem dX4_clear_6 : decode cX4_clear 6 = .ok (.iconst 0, 1) := by decide +kernel
theorem dX4_clear_7 : decode cX4_clear 7 = .ok (.putfield 21, 3) := by decide +kernel
theorem dX4_clear_10 : decode cX4_clear 10 = .ok (.aload_n 0, 1) := by decide +kernel
theorem dX4_clear_11 : decode cX4_clear 11 = .ok (.iconst (-1), 1) := by decide +kernel
theorem dX4_clear_12 : decode cX4_clear 12 = .ok (.putfield 9, 3) := by decide +kernel
theorem dX4_clear_15 : decode cX4_clear 15 = .ok (.aload_n 0, 1) := by decide +kernel
theorem dX4_clear_16 : decode cX4_clear 16 = .ok (.iconst (-1), 1) := by decide +kernel
theorem dX4_clear_17 : decode cX4_clear 17 = .ok (.putfield 15, 3) := by decide +kernel
theorem dX4_clear_20 : decode cX4_clear 20 = .ok (.aload_n 0, 1) := by decide +kernel
theorem dX4_clear_21 : decode cX4_clear 21 = .ok (.iconst 0, 1) := by decide +kernel
theorem dX4_clear_22 : decode cX4_clear 22 = .ok (.putfield 24, 3) := by decide +kernel
theorem dX4_clear_25 : decode cX4_clear 25 = .ok (.return_, 1) := by decide +kernel
theorem dX6_init_0 : decode cX6_init 0 = .ok (.aload_n 0, 1) := by decide +kernel
theorem dX6_init_1 : decode cX6_init 1 = .ok (.invokespecial 3, 3) := by decide +kernel
theorem dX6_init_4 : decode cX6_init 4 = .ok (.aload_n 0, 1) := by decide +kernel
theorem dX6_init_5 : decode cX6_init 5 = .ok (.new 9, 3) := by decide +kernel
theorem dX6_init_8 : decode cX6_init 8 = .ok (.dup, 1) := by decide +kernel
theorem dX6_init_9 : decode cX6_init 9 = .ok (.invokespecial 11, 3) := by decide +kernel
theorem dX6_init_12 : decode cX6_init 12 = .ok (.putfield 12, 3) := by decide +kernel
theorem dX6_init_15 : decode cX6_init 15 = .ok (.aload_n 0, 1) := by decide +kernel
theorem dX6_init_16 : decode cX6_init 16 = .ok (.sipush 256, 3) := by decide +kernel
theorem dX6_init_19 : decode cX6_init 19 = .ok (.newarray .int, 2) := by decide +kernel
theorem dX6_init_21 : decode cX6_init 21 = .ok (.putfield 18, 3) := by decide +kernel
theorem dX6_init_24 : decode cX6_init 24 = .ok (.aload_n 0, 1) := by decide +kernel
theorem dX6_init_25 : decode cX6_init 25 = .ok (.bipush 12, 2) := by decide +kernel
theorem dX6_init_27 : decode cX6_init 27 = .ok (.anewarray 22, 3) := by decide +kernel
theorem dX6_init_30 : decode cX6_init 30 = .ok (.putfield 24, 3) := by decide +kernel
theorem dX6_init_33 : decode cX6_init 33 = .ok (.aload_n 0, 1) := by decide +kernel
theorem dX6_init_34 : decode cX6_init 34 = .ok (.iconst 4, 1) := by decide +kernel
theorem dX6_init_35 : decode cX6_init 35 = .ok (.newarray .int, 2) := by decide +kernel
theorem dX6_init_37 : decode cX6_init 37 = .ok (.putfield 28, 3) := by decide +kernel
theorem dX6_init_40 : decode cX6_init 40 = .ok (.aload_n 0, 1) := by decide +kernel
theorem dX6_init_41 : decode cX6_init 41 = .ok (.bipush 11, 2) := by decide +kernel
theorem dX6_init_43 : decode cX6_init 43 = .ok (.newarray .int, 2) := by decide +kernel
theorem dX6_init_45 : decode cX6_init 45 = .ok (.putfield 33, 3) := by decide +kernel
theorem dX6_init_48 : decode cX6_init 48 = .ok (.aload_n 0, 1) := by decide +kernel
theorem dX6_init_49 : decode cX6_init 49 = .ok (.aload_n 0, 1) := by decide +kernel
theorem dX6_init_50 : decode cX6_init 50 = .ok (.getfield 33, 3) := by decide +kernel
theorem dX6_init_53 : decode cX6_init 53 = .ok (.putfield 36, 3) := by decide +kernel
theorem dX6_init_56 : decode cX6_init 56 = .ok (.aload_n 0, 1) := by decide +kernel
theorem dX6_init_57 : decode cX6_init 57 = .ok (.aload_n 1, 1) := by decide +kernel
theorem dX6_init_58 : decode cX6_init 58 = .ok (.putfield 39, 3) := by decide +kernel
theorem dX6_init_61 : decode cX6_init 61 = .ok (.aload_n 0, 1) := by decide +kernel
theorem dX6_init_62 : decode cX6_init 62 = .ok (.aload_n 2, 1) := by decide +kernel
theorem dX6_init_63 : decode cX6_init 63 = .ok (.putfield 43, 3) := by decide +kernel
theorem dX6_init_66 : decode cX6_init 66 = .ok (.aload_n 0, 1) := by decide +kernel
theorem dX6_init_67 : decode cX6_init 67 = .ok (.aload_n 3, 1) := by decide +kernel
theorem dX6_init_68 : decode cX6_init 68 = .ok (.putfield 47, 3) := by decide +kernel
theorem dX6_init_71 : decode cX6_init 71 = .ok (.aload_n 0, 1) := by decide +kernel
theorem dX6_init_72 : decode cX6_init 72 = .ok (.aload 4, 2) := by decide +kernel
theorem dX6_init_74 : decode cX6_init 74 = .ok (.putfield 50, 3) := by decide +kernel
theorem dX6_init_77 : decode cX6_init 77 = .ok (.iconst 0, 1) := by decide +kernel
theorem dX6_init_78 : decode cX6_init 78 = .ok (.istore 5, 2) := by decide +kernel
theorem dX6_init_80 : decode cX6_init 80 = .ok (.iload 5, 2) := by decide +kernel
theorem dX6_init_82 : decode cX6_init 82 = .ok (.bipush 12, 2) := by decide +kernel
theorem dX6_init_84 : decode cX6_init 84 = .ok (.if_icmp .ge 23, 3) := by decide +kernel
theorem dX6_init_87 : decode cX6_init 87 = .ok (.aload_n 0, 1) := by decide +kernel
theorem dX6_init_88 : decode cX6_init 88 = .ok (.getfield 24, 3) := by decide +kernel
theorem dX6_init_91 : decode cX6_init 91 = .ok (.iload 5, 2) := by decide +kernel
theorem dX6_init_93 : decode cX6_init 93 = .ok (.new 22, 3) := by decide +kernel
theorem dX6_init_96 : decode cX6_init 96 = .ok (.dup, 1) := by decide +kernel
theorem dX6_init_97 : decode cX6_init 97 = .ok (.invokespecial 53, 3) := by decide +kernel
theorem dX6_init_100 : decode cX6_init 100 = .ok (.aastore, 1) := by decide +kernel
theorem dX6_init_101 : decode cX6_init 101 = .ok (.iinc 5 1, 3) := by decide +kernel
theorem dX6_init_104 : decode cX6_init 104 = .ok (.goto (-24), 3) := by decide +kernel
theorem dX6_init_107 : decode cX6_init 107 = .ok (.return_, 1) := by decide +kernel
theorem dX6_run_0 : decode cX6_run 0 = .ok (.aload_n 0, 1) := by decide +kernel
theorem dX6_run_1 : decode cX6_run 1 = .ok (.getfield 12, 3) := by decide +kernel
theorem dX6_run_4 : decode cX6_run 4 = .ok (.invokevirtual 54, 3) := by decide +kernel
theorem dX6_run_7 : decode cX6_run 7 = .ok (.aload_n 0, 1) := by decide +kernel
theorem dX6_run_8 : decode cX6_run 8 = .ok (.iload 4, 2) := by decide +kernel
theorem dX6_run_10 : decode cX6_run 10 = .ok (.putfield 57, 3) := by decide +kernel
theorem dX6_run_13 : decode cX6_run 13 = .ok (.aload_n 0, 1) := by decide +kernel
theorem dX6_run_14 : decode cX6_run 14 = .ok (.iconst 0, 1) := by decide +kernel
theorem dX6_run_15 : decode cX6_run 15 = .ok (.putfield 61, 3) := by decide +kernel
theorem dX6_run_18 : decode cX6_run 18 = .ok (.aload_n 0, 1) := by decide +kernel
theorem dX6_run_19 : decode cX6_run 19 = .ok (.iconst 0, 1) := by decide +kernel
theorem dX6_run_20 : decode cX6_run 20 = .ok (.putfield 65, 3) := by decide +kernel
theorem dX6_run_23 : decode cX6_run 23 = .ok (.aload_n 0, 1) := by decide +kernel
theorem dX6_run_24 : decode cX6_run 24 = .ok (.iload_n 1, 1) := by decide +kernel
theorem dX6_run_25 : decode cX6_run 25 = .ok (.putfield 68, 3) := by decide +kernel
theorem dX6_run_28 : decode cX6_run 28 = .ok (.aload_n 0, 1) := by decide +kernel
theorem dX6_run_29 : decode cX6_run 29 = .ok (.iconst 0, 1) := by decide +kernel
theorem dX6_run_30 : decode cX6_run 30 = .ok (.putfield 71, 3) := by decide +kernel
theorem dX6_run_33 : decode cX6_run 33 = .ok (.iconst 0, 1) := by decide +kernel
theorem dX6_run_34 : decode cX6_run 34 = .ok (.istore 5, 2) := by decide +kernel
theorem dX6_run_36 : decode cX6_run 36 = .ok (.iload 5, 2) := by decide +kernel
theorem dX6_run_38 : decode cX6_run 38 = .ok (.iload_n 3, 1) := by decide +kernel
theorem dX6_run_39 : decode cX6_run 39 = .ok (.if_icmp .ge 20, 3) := by decide +kernel
theorem dX6_run_42 : decode cX6_run 42 = .ok (.aload_n 0, 1) := by decide +kernel
theorem dX6_run_43 : decode cX6_run 43 = .ok (.getfield 28, 3) := by decide +kernel
theorem dX6_run_46 : decode cX6_run 46 = .ok (.iload 5, 2) := by decide +kernel
theorem dX6_run_48 : decode cX6_run 48 = .ok (.aload_n 2, 1) := by decide +kernel
theorem dX6_run_49 : decode cX6_run 49 = .ok (.iload 5, 2) := by decide +kernel
theorem dX6_run_51 : decode cX6_run 51 = .ok (.iaload, 1) := by decide +kernel
theorem dX6_run_52 : decode cX6_run 52 = .ok (.iastore, 1) := by decide +kernel
theorem dX6_run_53 : decode cX6_run 53 = .ok (.iinc 5 1, 3) := by decide +kernel
theorem dX6_run_56 : decode cX6_run 56 = .ok (.goto (-20), 3) := by decide +kernel
theorem dX6_run_59 : decode cX6_run 59 = .ok (.aload_n 0, 1) := by decide +kernel
theorem dX6_run_60 : decode cX6_run 60 = .ok (.iload_n 1, 1) := by decide +kernel
theorem dX6_run_61 : decode cX6_run 61 = .ok (.iload_n 3, 1) := by decide +kernel
theorem dX6_run_62 : decode cX6_run 62 = .ok (.invokevirtual 74, 3) := by decide +kernel
theorem dX6_run_65 : decode cX6_run 65 = .ok (.iconst 0, 1) := by decide +kernel
theorem dX6_run_66 : decode cX6_run 66 = .ok (.istore 5, 2) := by decide +kernel
theorem dX6_run_68 : decode cX6_run 68 = .ok (.iload 5, 2) := by decide +kernel
theorem dX6_run_70 : decode cX6_run 70 = .ok (.sipush 400, 3) := by decide +kernel
theorem dX6_run_73 : decode cX6_run 73 = .ok (.if_icmp .gt 44, 3) := by decide +kernel
theorem dX6_run_76 : decode cX6_run 76 = .ok (.aload_n 0, 1) := by decide +kernel
theorem dX6_run_77 : decode cX6_run 77 = .ok (.getfield 61, 3) := by decide +kernel
theorem dX6_run_80 : decode cX6_run 80 = .ok (.ifCond .le 37, 3) := by decide +kernel
theorem dX6_run_83 : decode cX6_run 83 = .ok (.aload_n 0, 1) := by decide +kernel
theorem dX6_run_84 : decode cX6_run 84 = .ok (.getfield 24, 3) := by decide +kernel
theorem dX6_run_87 : decode cX6_run 87 = .ok (.aload_n 0, 1) := by decide +kernel
theorem dX6_run_88 : decode cX6_run 88 = .ok (.getfield 61, 3) := by decide +kernel
theorem dX6_run_91 : decode cX6_run 91 = .ok (.iconst 1, 1) := by decide +kernel
theorem dX6_run_92 : decode cX6_run 92 = .ok (.isub, 1) := by decide +kernel
theorem dX6_run_93 : decode cX6_run 93 = .ok (.aaload, 1) := by decide +kernel
theorem dX6_run_94 : decode cX6_run 94 = .ok (.astore 6, 2) := by decide +kernel
theorem dX6_run_96 : decode cX6_run 96 = .ok (.aload_n 0, 1) := by decide +kernel
theorem dX6_run_97 : decode cX6_run 97 = .ok (.aload 6, 2) := by decide +kernel
theorem dX6_run_99 : decode cX6_run 99 = .ok (.invokevirtual 78, 3) := by decide +kernel
theorem dX6_run_102 : decode cX6_run 102 = .ok (.ifCond .eq 9, 3) := by decide +kernel
theorem dX6_run_105 : decode cX6_run 105 = .ok (.aload_n 0, 1) := by decide +kernel
theorem dX6_run_106 : decode cX6_run 106 = .ok (.aload 6, 2) := by decide +kernel
theorem dX6_run_108 : decode cX6_run 108 = .ok (.invokevirtual 82, 3) := by decide +kernel
theorem dX6_run_111 : decode cX6_run 111 = .ok (.iinc 5 1, 3) := by decide +kernel
theorem dX6_run_114 : decode cX6_run 114 = .ok (.goto (-46), 3) := by decide +kernel
theorem dX6_run_117 : decode cX6_run 117 = .ok (.aload_n 0, 1) := by decide +kernel
theorem dX6_run_118 : decode cX6_run 118 = .ok (.getfield 12, 3) := by decide +kernel
theorem dX6_run_121 : decode cX6_run 121 = .ok (.getfield 86, 3) := by decide +kernel
theorem dX6_run_124 : decode cX6_run 124 = .ok (.ifCond .ne 7, 3) := by decide +kernel
theorem dX6_run_127 : decode cX6_run 127 = .ok (.iconst 0, 1) := by decide +kernel
theorem dX6_run_128 : decode cX6_run 128 = .ok (.goto 13, 3) := by decide +kernel
theorem dX6_run_131 : decode cX6_run 131 = .ok (.bipush (-10), 2) := by decide +kernel
theorem dX6_run_133 : decode cX6_run 133 = .ok (.aload_n 0, 1) := by decide +kernel
theorem dX6_run_134 : decode cX6_run 134 = .ok (.getfield 12, 3) := by decide +kernel
theorem dX6_run_137 : decode cX6_run 137 = .ok (.getfield 86, 3) := by decide +kernel
theorem dX6_run_140 : decode cX6_run 140 = .ok (.isub, 1) := by decide +kernel
theorem dX6_run_141 : decode cX6_run 141 = .ok (.ireturn, 1) := by decide +kernel
theorem dX6_enter_0 : decode cX6_enter 0 = .ok (.iload_n 1, 1) := by decide +kernel
theorem dX6_enter_1 : decode cX6_enter 1 = .ok (.iconst (-1), 1) := by decide +kernel
theorem dX6_enter_2 : decode cX6_enter 2 = .ok (.if_icmp .ne 7, 3) := by decide +kernel
theorem dX6_enter_5 : decode cX6_enter 5 = .ok (.iconst 0, 1) := by decide +kernel
theorem dX6_enter_6 : decode cX6_enter 6 = .ok (.goto 11, 3) := by decide +kernel
theorem dX6_enter_9 : decode cX6_enter 9 = .ok (.aload_n 0, 1) := by decide +kernel
theorem dX6_enter_10 : decode cX6_enter 10 = .ok (.getfield 18, 3) := by decide +kernel
theorem dX6_enter_13 : decode cX6_enter 13 = .ok (.iload_n 1, 1) := by decide +kernel
theorem dX6_enter_14 : decode cX6_enter 14 = .ok (.iconst 4, 1) := by decide +kernel
theorem dX6_enter_15 : decode cX6_enter 15 = .ok (.idiv, 1) := by decide +kernel
theorem dX6_enter_16 : decode cX6_enter 16 = .ok (.iaload, 1) := by decide +kernel
theorem dX6_enter_17 : decode cX6_enter 17 = .ok (.istore_n 3, 1) := by decide +kernel
theorem dX6_enter_18 : decode cX6_enter 18 = .ok (.iload_n 3, 1) := by decide +kernel
theorem dX6_enter_19 : decode cX6_enter 19 = .ok (.ifCond .eq 28, 3) := by decide +kernel
theorem dX6_enter_22 : decode cX6_enter 22 = .ok (.aload_n 0, 1) := by decide +kernel
theorem dX6_enter_23 : decode cX6_enter 23 = .ok (.iload_n 3, 1) := by decide +kernel
theorem dX6_enter_24 : decode cX6_enter 24 = .ok (.iload_n 2, 1) := by decide +kernel
theorem dX6_enter_25 : decode cX6_enter 25 = .ok (.invokevirtual 89, 3) := by decide +kernel
theorem dX6_enter_28 : decode cX6_enter 28 = .ok (.istore 4, 2) := by decide +kernel
theorem dX6_enter_30 : decode cX6_enter 30 = .ok (.aload_n 0, 1) := by decide +kernel
theorem dX6_enter_31 : decode cX6_enter 31 = .ok (.getfield 12, 3) := by decide +kernel
theorem dX6_enter_34 : decode cX6_enter 34 = .ok (.getfield 86, 3) := by decide +kernel
theorem dX6_enter_37 : decode cX6_enter 37 = .ok (.ifCond .ne 9, 3) := by decide +kernel
theorem dX6_enter_40 : decode cX6_enter 40 = .ok (.aload_n 0, 1) := by decide +kernel
theorem dX6_enter_41 : decode cX6_enter 41 = .ok (.iload 4, 2) := by decide +kernel
theorem dX6_enter_43 : decode cX6_enter 43 = .ok (.invokevirtual 93, 3) := by decide +kernel
theorem dX6_enter_46 : decode cX6_enter 46 = .ok (.return_, 1) := by decide +kernel
theorem dX6_enter_47 : decode cX6_enter 47 = .ok (.aload_n 0, 1) := by decide +kernel
theorem dX6_enter_48 : decode cX6_enter 48 = .ok (.getfield 61, 3) := by decide +kernel
theorem dX6_enter_51 : decode cX6_enter 51 = .ok (.bipush 12, 2) := by decide +kernel
theorem dX6_enter_53 : decode cX6_enter 53 = .ok (.if_icmp .lt 9, 3) := by decide +kernel
theorem dX6_enter_56 : decode cX6_enter 56 = .ok (.aload_n 0, 1) := by decide +kernel
theorem dX6_enter_57 : decode cX6_enter 57 = .ok (.iconst 4, 1) := by decide +kernel
theorem dX6_enter_58 : decode cX6_enter 58 = .ok (.invokevirtual 97, 3) := by decide +kernel
theorem dX6_enter_61 : decode cX6_enter 61 = .ok (.return_, 1) := by decide +kernel
theorem dX6_enter_62 : decode cX6_enter 62 = .ok (.iload_n 1, 1) := by decide +kernel
theorem dX6_enter_63 : decode cX6_enter 63 = .ok (.iconst (-1), 1) := by decide +kernel
theorem dX6_enter_64 : decode cX6_enter 64 = .ok (.if_icmp .eq 14, 3) := by decide +kernel
theorem dX6_enter_67 : decode cX6_enter 67 = .ok (.aload_n 0, 1) := by decide +kernel
theorem dX6_enter_68 : decode cX6_enter 68 = .ok (.getfield 39, 3) := by decide +kernel
theorem dX6_enter_71 : decode cX6_enter 71 = .ok (.iload_n 1, 1) := by decide +kernel
theorem dX6_enter_72 : decode cX6_enter 72 = .ok (.invokevirtual 100, 3) := by decide +kernel
theorem dX6_enter_75 : decode cX6_enter 75 = .ok (.ifCond .ne 9, 3) := by decide +kernel
theorem dX6_enter_78 : decode cX6_enter 78 = .ok (.aload_n 0, 1) := by decide +kernel
theorem dX6_enter_79 : decode cX6_enter 79 = .ok (.iconst 3, 1) := by decide +kernel
theorem dX6_enter_80 : decode cX6_enter 80 = .ok (.invokevirtual 97, 3) := by decide +kernel
theorem dX6_enter_83 : decode cX6_enter 83 = .ok (.return_, 1) := by decide +kernel
theorem dX6_enter_84 : decode cX6_enter 84 = .ok (.aload_n 0, 1) := by decide +kernel
theorem dX6_enter_85 : decode cX6_enter 85 = .ok (.getfield 24, 3) := by decide +kernel
theorem dX6_enter_88 : decode cX6_enter 88 = .ok (.aload_n 0, 1) := by decide +kernel
theorem dX6_enter_89 : decode cX6_enter 89 = .ok (.getfield 61, 3) := by decide +kernel
theorem dX6_enter_92 : decode cX6_enter 92 = .ok (.aaload, 1) := by decide +kernel
theorem dX6_enter_93 : decode cX6_enter 93 = .ok (.astore 4, 2) := by decide +kernel
theorem dX6_enter_95 : decode cX6_enter 95 = .ok (.aload_n 0, 1) := by decide +kernel
theorem dX6_enter_96 : decode cX6_enter 96 = .ok (.dup, 1) := by decide +kernel
theorem dX6_enter_97 : decode cX6_enter 97 = .ok (.getfield 61, 3) := by decide +kernel
theorem dX6_enter_100 : decode cX6_enter 100 = .ok (.iconst 1, 1) := by decide +kernel
theorem dX6_enter_101 : decode cX6_enter 101 = .ok (.iadd, 1) := by decide +kernel
theorem dX6_enter_102 : decode cX6_enter 102 = .ok (.putfield 61, 3) := by decide +kernel
theorem dX6_enter_105 : decode cX6_enter 105 = .ok (.aload 4, 2) := by decide +kernel
theorem dX6_enter_107 : decode cX6_enter 107 = .ok (.iload_n 1, 1) := by decide +kernel
theorem dX6_enter_108 : decode cX6_enter 108 = .ok (.aload_n 0, 1) := by decide +kernel
theorem dX6_enter_109 : decode cX6_enter 109 = .ok (.getfield 39, 3) := by decide +kernel
theorem dX6_enter_112 : decode cX6_enter 112 = .ok (.getfield 106, 3) := by decide +kernel
theorem dX6_enter_115 : decode cX6_enter 115 = .ok (.iload_n 1, 1) := by decide +kernel
theorem dX6_enter_116 : decode cX6_enter 116 = .ok (.iaload, 1) := by decide +kernel
theorem dX6_enter_117 : decode cX6_enter 117 = .ok (.aload_n 0, 1) := by decide +kernel
theorem dX6_enter_118 : decode cX6_enter 118 = .ok (.getfield 28, 3) := by decide +kernel
theorem dX6_enter_121 : decode cX6_enter 121 = .ok (.iload_n 2, 1) := by decide +kernel
theorem dX6_enter_122 : decode cX6_enter 122 = .ok (.invokevirtual 109, 3) := by decide +kernel
theorem dX6_enter_125 : decode cX6_enter 125 = .ok (.aload 4, 2) := by decide +kernel
theorem dX6_enter_127 : decode cX6_enter 127 = .ok (.aload_n 0, 1) := by decide +kernel
theorem dX6_enter_128 : decode cX6_enter 128 = .ok (.getfield 57, 3) := by decide +kernel
theorem dX6_enter_131 : decode cX6_enter 131 = .ok (.ifCond .eq 14, 3) := by decide +kernel
theorem dX6_enter_134 : decode cX6_enter 134 = .ok (.aload_n 0, 1) := by decide +kernel
theorem dX6_enter_135 : decode cX6_enter 135 = .ok (.getfield 43, 3) := by decide +kernel
theorem dX6_enter_138 : decode cX6_enter 138 = .ok (.iload_n 1, 1) := by decide +kernel
theorem dX6_enter_139 : decode cX6_enter 139 = .ok (.invokevirtual 113, 3) := by decide +kernel
theorem dX6_enter_142 : decode cX6_enter 142 = .ok (.goto 4, 3) := by decide +kernel
theorem dX6_enter_145 : decode cX6_enter 145 = .ok (.aconst_null, 1) := by decide +kernel
theorem dX6_enter_146 : decode cX6_enter 146 = .ok (.putfield 119, 3) := by decide +kernel
theorem dX6_enter_149 : decode cX6_enter 149 = .ok (.aload_n 0, 1) := by decide +kernel
theorem dX6_enter_150 : decode cX6_enter 150 = .ok (.getfield 50, 3) := by decide +kernel
theorem dX6_enter_153 : decode cX6_enter 153 = .ok (.iconst 4, 1) := by decide +kernel
theorem dX6_enter_154 : decode cX6_enter 154 = .ok (.dup2, 1) := by decide +kernel
theorem dX6_enter_155 : decode cX6_enter 155 = .ok (.iaload, 1) := by decide +kernel
theorem dX6_enter_156 : decode cX6_enter 156 = .ok (.iconst 1, 1) := by decide +kernel
theorem dX6_enter_157 : decode cX6_enter 157 = .ok (.iadd, 1) := by decide +kernel
theorem dX6_enter_158 : decode cX6_enter 158 = .ok (.iastore, 1) := by decide +kernel
theorem dX6_enter_159 : decode cX6_enter 159 = .ok (.aload 4, 2) := by decide +kernel
theorem dX6_enter_161 : decode cX6_enter 161 = .ok (.getfield 119, 3) := by decide +kernel
theorem dX6_enter_164 : decode cX6_enter 164 = .ok (.ifnull 13, 3) := by decide +kernel
theorem dX6_enter_167 : decode cX6_enter 167 = .ok (.aload_n 0, 1) := by decide +kernel
theorem dX6_enter_168 : decode cX6_enter 168 = .ok (.getfield 50, 3) := by decide +kernel
theorem dX6_enter_171 : decode cX6_enter 171 = .ok (.iconst 5, 1) := by decide +kernel
theorem dX6_enter_172 : decode cX6_enter 172 = .ok (.dup2, 1) := by decide +kernel
theorem dX6_enter_173 : decode cX6_enter 173 = .ok (.iaload, 1) := by decide +kernel
theorem dX6_enter_174 : decode cX6_enter 174 = .ok (.iconst 1, 1) := by decide +kernel
theorem dX6_enter_175 : decode cX6_enter 175 = .ok (.iadd, 1) := by decide +kernel
theorem dX6_enter_176 : decode cX6_enter 176 = .ok (.iastore, 1) := by decide +kernel
theorem dX6_enter_177 : decode cX6_enter 177 = .ok (.return_, 1) := by decide +kernel
theorem dX6_valueOfBuiltIn_0 : decode cX6_valueOfBuiltIn 0 = .ok (.aload_n 0, 1) := by decide +kernel
theorem dX6_valueOfBuiltIn_1 : decode cX6_valueOfBuiltIn 1 = .ok (.invokevirtual 123, 3) := by decide +kernel
theorem dX6_valueOfBuiltIn_4 : decode cX6_valueOfBuiltIn 4 = .ok (.ifCond .ne 5, 3) := by decide +kernel
theorem dX6_valueOfBuiltIn_7 : decode cX6_valueOfBuiltIn 7 = .ok (.iconst 0, 1) := by decide +kernel
theorem dX6_valueOfBuiltIn_8 : decode cX6_valueOfBuiltIn 8 = .ok (.ireturn, 1) := by decide +kernel
theorem dX6_valueOfBuiltIn_9 : decode cX6_valueOfBuiltIn 9 = .ok (.iload_n 1, 1) := by decide +kernel
theorem dX6_valueOfBuiltIn_10 : decode cX6_valueOfBuiltIn 10 = .ok (.tableswitch 44 1 3 #[26, 32, 38], 26) := by decide +kernel
theorem dX6_valueOfBuiltIn_36 : decode cX6_valueOfBuiltIn 36 = .ok (.aload_n 0, 1) := by decide +kernel
theorem dX6_valueOfBuiltIn_37 : decode cX6_valueOfBuiltIn 37 = .ok (.iload_n 2, 1) := by decide +kernel
theorem dX6_valueOfBuiltIn_38 : decode cX6_valueOfBuiltIn 38 = .ok (.invokevirtual 127, 3) := by decide +kernel
theorem dX6_valueOfBuiltIn_41 : decode cX6_valueOfBuiltIn 41 = .ok (.ireturn, 1) := by decide +kernel
theorem dX6_valueOfBuiltIn_42 : decode cX6_valueOfBuiltIn 42 = .ok (.aload_n 0, 1) := by decide +kernel
theorem dX6_valueOfBuiltIn_43 : decode cX6_valueOfBuiltIn 43 = .ok (.iload_n 2, 1) := by decide +kernel
theorem dX6_valueOfBuiltIn_44 : decode cX6_valueOfBuiltIn 44 = .ok (.invokevirtual 131, 3) := by decide +kernel
theorem dX6_valueOfBuiltIn_47 : decode cX6_valueOfBuiltIn 47 = .ok (.ireturn, 1) := by decide +kernel
theorem dX6_valueOfBuiltIn_48 : decode cX6_valueOfBuiltIn 48 = .ok (.aload_n 0, 1) := by decide +kernel
theorem dX6_valueOfBuiltIn_49 : decode cX6_valueOfBuiltIn 49 = .ok (.iload_n 2, 1) := by decide +kernel
theorem dX6_valueOfBuiltIn_50 : decode cX6_valueOfBuiltIn 50 = .ok (.invokevirtual 134, 3) := by decide +kernel
theorem dX6_valueOfBuiltIn_53 : decode cX6_valueOfBuiltIn 53 = .ok (.ireturn, 1) := by decide +kernel
theorem dX6_valueOfBuiltIn_54 : decode cX6_valueOfBuiltIn 54 = .ok (.aload_n 0, 1) := by decide +kernel
theorem dX6_valueOfBuiltIn_55 : decode cX6_valueOfBuiltIn 55 = .ok (.iload_n 2, 1) := by decide +kernel
theorem dX6_valueOfBuiltIn_56 : decode cX6_valueOfBuiltIn 56 = .ok (.invokevirtual 137, 3) := by decide +kernel
theorem dX6_valueOfBuiltIn_59 : decode cX6_valueOfBuiltIn 59 = .ok (.ireturn, 1) := by decide +kernel
theorem dX6_sumOfHanded_0 : decode cX6_sumOfHanded 0 = .ok (.iconst 0, 1) := by decide +kernel
theorem dX6_sumOfHanded_1 : decode cX6_sumOfHanded 1 = .ok (.istore_n 2, 1) := by decide +kernel
theorem dX6_sumOfHanded_2 : decode cX6_sumOfHanded 2 = .ok (.iconst 0, 1) := by decide +kernel
theorem dX6_sumOfHanded_3 : decode cX6_sumOfHanded 3 = .ok (.istore_n 3, 1) := by decide +kernel
theorem dX6_sumOfHanded_4 : decode cX6_sumOfHanded 4 = .ok (.iload_n 3, 1) := by decide +kernel
theorem dX6_sumOfHanded_5 : decode cX6_sumOfHanded 5 = .ok (.iload_n 1, 1) := by decide +kernel
theorem dX6_sumOfHanded_6 : decode cX6_sumOfHanded 6 = .ok (.if_icmp .ge 18, 3) := by decide +kernel
theorem dX6_sumOfHanded_9 : decode cX6_sumOfHanded 9 = .ok (.iload_n 2, 1) := by decide +kernel
theorem dX6_sumOfHanded_10 : decode cX6_sumOfHanded 10 = .ok (.aload_n 0, 1) := by decide +kernel
theorem dX6_sumOfHanded_11 : decode cX6_sumOfHanded 11 = .ok (.getfield 28, 3) := by decide +kernel
theorem dX6_sumOfHanded_14 : decode cX6_sumOfHanded 14 = .ok (.iload_n 3, 1) := by decide +kernel
theorem dX6_sumOfHanded_15 : decode cX6_sumOfHanded 15 = .ok (.iaload, 1) := by decide +kernel
theorem dX6_sumOfHanded_16 : decode cX6_sumOfHanded 16 = .ok (.iadd, 1) := by decide +kernel
theorem dX6_sumOfHanded_17 : decode cX6_sumOfHanded 17 = .ok (.istore_n 2, 1) := by decide +kernel
theorem dX6_sumOfHanded_18 : decode cX6_sumOfHanded 18 = .ok (.iinc 3 1, 3) := by decide +kernel
theorem dX6_sumOfHanded_21 : decode cX6_sumOfHanded 21 = .ok (.goto (-17), 3) := by decide +kernel
theorem dX6_sumOfHanded_24 : decode cX6_sumOfHanded 24 = .ok (.iload_n 2, 1) := by decide +kernel
theorem dX6_sumOfHanded_25 : decode cX6_sumOfHanded 25 = .ok (.ireturn, 1) := by decide +kernel
theorem dX6_greatestOfHanded_0 : decode cX6_greatestOfHanded 0 = .ok (.iload_n 1, 1) := by decide +kernel
theorem dX6_greatestOfHanded_1 : decode cX6_greatestOfHanded 1 = .ok (.ifCond .ne 7, 3) := by decide +kernel
theorem dX6_greatestOfHanded_4 : decode cX6_greatestOfHanded 4 = .ok (.iconst 0, 1) := by decide +kernel
theorem dX6_greatestOfHanded_5 : decode cX6_greatestOfHanded 5 = .ok (.goto 9, 3) := by decide +kernel
theorem dX6_greatestOfHanded_8 : decode cX6_greatestOfHanded 8 = .ok (.aload_n 0, 1) := by decide +kernel
theorem dX6_greatestOfHanded_9 : decode cX6_greatestOfHanded 9 = .ok (.getfield 28, 3) := by decide +kernel
theorem dX6_greatestOfHanded_12 : decode cX6_greatestOfHanded 12 = .ok (.iconst 0, 1) := by decide +kernel
theorem dX6_greatestOfHanded_13 : decode cX6_greatestOfHanded 13 = .ok (.iaload, 1) := by decide +kernel
theorem dX6_greatestOfHanded_14 : decode cX6_greatestOfHanded 14 = .ok (.istore_n 2, 1) := by decide +kernel
theorem dX6_greatestOfHanded_15 : decode cX6_greatestOfHanded 15 = .ok (.iconst 1, 1) := by decide +kernel
theorem dX6_greatestOfHanded_16 : decode cX6_greatestOfHanded 16 = .ok (.istore_n 3, 1) := by decide +kernel
theorem dX6_greatestOfHanded_17 : decode cX6_greatestOfHanded 17 = .ok (.iload_n 3, 1) := by decide +kernel
theorem dX6_greatestOfHanded_18 : decode cX6_greatestOfHanded 18 = .ok (.iload_n 1, 1) := by decide +kernel
theorem dX6_greatestOfHanded_19 : decode cX6_greatestOfHanded 19 = .ok (.if_icmp .ge 20, 3) := by decide +kernel
theorem dX6_greatestOfHanded_22 : decode cX6_greatestOfHanded 22 = .ok (.iload_n 2, 1) := by decide +kernel
theorem dX6_greatestOfHanded_23 : decode cX6_greatestOfHanded 23 = .ok (.aload_n 0, 1) := by decide +kernel
theorem dX6_greatestOfHanded_24 : decode cX6_greatestOfHanded 24 = .ok (.getfield 28, 3) := by decide +kernel
theorem dX6_greatestOfHanded_27 : decode cX6_greatestOfHanded 27 = .ok (.iload_n 3, 1) := by decide +kernel
theorem dX6_greatestOfHanded_28 : decode cX6_greatestOfHanded 28 = .ok (.iaload, 1) := by decide +kernel
theorem dX6_greatestOfHanded_29 : decode cX6_greatestOfHanded 29 = .ok (.invokestatic 140, 3) := by decide +kernel
theorem dX6_greatestOfHanded_32 : decode cX6_greatestOfHanded 32 = .ok (.istore_n 2, 1) := by decide +kernel
theorem dX6_greatestOfHanded_33 : decode cX6_greatestOfHanded 33 = .ok (.iinc 3 1, 3) := by decide +kernel
theorem dX6_greatestOfHanded_36 : decode cX6_greatestOfHanded 36 = .ok (.goto (-19), 3) := by decide +kernel
theorem dX6_greatestOfHanded_39 : decode cX6_greatestOfHanded 39 = .ok (.iload_n 2, 1) := by decide +kernel
theorem dX6_greatestOfHanded_40 : decode cX6_greatestOfHanded 40 = .ok (.ireturn, 1) := by decide +kernel
theorem dX6_handedNotZero_0 : decode cX6_handedNotZero 0 = .ok (.iconst 0, 1) := by decide +kernel
theorem dX6_handedNotZero_1 : decode cX6_handedNotZero 1 = .ok (.istore_n 2, 1) := by decide +kernel
theorem dX6_handedNotZero_2 : decode cX6_handedNotZero 2 = .ok (.iconst 0, 1) := by decide +kernel
theorem dX6_handedNotZero_3 : decode cX6_handedNotZero 3 = .ok (.istore_n 3, 1) := by decide +kernel
theorem dX6_handedNotZero_4 : decode cX6_handedNotZero 4 = .ok (.iload_n 3, 1) := by decide +kernel
theorem dX6_handedNotZero_5 : decode cX6_handedNotZero 5 = .ok (.iload_n 1, 1) := by decide +kernel
theorem dX6_handedNotZero_6 : decode cX6_handedNotZero 6 = .ok (.if_icmp .ge 21, 3) := by decide +kernel
theorem dX6_handedNotZero_9 : decode cX6_handedNotZero 9 = .ok (.aload_n 0, 1) := by decide +kernel
theorem dX6_handedNotZero_10 : decode cX6_handedNotZero 10 = .ok (.getfield 28, 3) := by decide +kernel
theorem dX6_handedNotZero_13 : decode cX6_handedNotZero 13 = .ok (.iload_n 3, 1) := by decide +kernel
theorem dX6_handedNotZero_14 : decode cX6_handedNotZero 14 = .ok (.iaload, 1) := by decide +kernel
theorem dX6_handedNotZero_15 : decode cX6_handedNotZero 15 = .ok (.ifCond .eq 6, 3) := by decide +kernel
theorem dX6_handedNotZero_18 : decode cX6_handedNotZero 18 = .ok (.iinc 2 1, 3) := by decide +kernel
theorem dX6_handedNotZero_21 : decode cX6_handedNotZero 21 = .ok (.iinc 3 1, 3) := by decide +kernel
theorem dX6_handedNotZero_24 : decode cX6_handedNotZero 24 = .ok (.goto (-20), 3) := by decide +kernel
theorem dX6_handedNotZero_27 : decode cX6_handedNotZero 27 = .ok (.iload_n 2, 1) := by decide +kernel
theorem dX6_handedNotZero_28 : decode cX6_handedNotZero 28 = .ok (.ireturn, 1) := by decide +kernel
theorem dX6_byteAtFirstHanded_0 : decode cX6_byteAtFirstHanded 0 = .ok (.iload_n 1, 1) := by decide +kernel
theorem dX6_byteAtFirstHanded_1 : decode cX6_byteAtFirstHanded 1 = .ok (.ifCond .eq 15, 3) := by decide +kernel
theorem dX6_byteAtFirstHanded_4 : decode cX6_byteAtFirstHanded 4 = .ok (.aload_n 0, 1) := by decide +kernel
theorem dX6_byteAtFirstHanded_5 : decode cX6_byteAtFirstHanded 5 = .ok (.getfield 28, 3) := by decide +kernel
theorem dX6_byteAtFirstHanded_8 : decode cX6_byteAtFirstHanded 8 = .ok (.iconst 0, 1) := by decide +kernel
theorem dX6_byteAtFirstHanded_9 : decode cX6_byteAtFirstHanded 9 = .ok (.iaload, 1) := by decide +kernel
theorem dX6_byteAtFirstHanded_10 : decode cX6_byteAtFirstHanded 10 = .ok (.invokestatic 145, 3) := by decide +kernel
theorem dX6_byteAtFirstHanded_13 : decode cX6_byteAtFirstHanded 13 = .ok (.ifCond .ne 10, 3) := by decide +kernel
theorem dX6_byteAtFirstHanded_16 : decode cX6_byteAtFirstHanded 16 = .ok (.aload_n 0, 1) := by decide +kernel
theorem dX6_byteAtFirstHanded_17 : decode cX6_byteAtFirstHanded 17 = .ok (.iconst 1, 1) := by decide +kernel
theorem dX6_byteAtFirstHanded_18 : decode cX6_byteAtFirstHanded 18 = .ok (.invokevirtual 97, 3) := by decide +kernel
theorem dX6_byteAtFirstHanded_21 : decode cX6_byteAtFirstHanded 21 = .ok (.iconst 0, 1) := by decide +kernel
theorem dX6_byteAtFirstHanded_22 : decode cX6_byteAtFirstHanded 22 = .ok (.ireturn, 1) := by decide +kernel
theorem dX6_byteAtFirstHanded_23 : decode cX6_byteAtFirstHanded 23 = .ok (.aload_n 0, 1) := by decide +kernel
theorem dX6_byteAtFirstHanded_24 : decode cX6_byteAtFirstHanded 24 = .ok (.getfield 39, 3) := by decide +kernel
theorem dX6_byteAtFirstHanded_27 : decode cX6_byteAtFirstHanded 27 = .ok (.getfield 106, 3) := by decide +kernel
theorem dX6_byteAtFirstHanded_30 : decode cX6_byteAtFirstHanded 30 = .ok (.aload_n 0, 1) := by decide +kernel
theorem dX6_byteAtFirstHanded_31 : decode cX6_byteAtFirstHanded 31 = .ok (.getfield 28, 3) := by decide +kernel
theorem dX6_byteAtFirstHanded_34 : decode cX6_byteAtFirstHanded 34 = .ok (.iconst 0, 1) := by decide +kernel
theorem dX6_byteAtFirstHanded_35 : decode cX6_byteAtFirstHanded 35 = .ok (.iaload, 1) := by decide +kernel
theorem dX6_byteAtFirstHanded_36 : decode cX6_byteAtFirstHanded 36 = .ok (.iaload, 1) := by decide +kernel
theorem dX6_byteAtFirstHanded_37 : decode cX6_byteAtFirstHanded 37 = .ok (.ireturn, 1) := by decide +kernel
theorem dX6_spendStep_0 : decode cX6_spendStep 0 = .ok (.aload_n 0, 1) := by decide +kernel
theorem dX6_spendStep_1 : decode cX6_spendStep 1 = .ok (.getfield 65, 3) := by decide +kernel
theorem dX6_spendStep_4 : decode cX6_spendStep 4 = .ok (.sipush 400, 3) := by decide +kernel
theorem dX6_spendStep_7 : decode cX6_spendStep 7 = .ok (.if_icmp .lt 10, 3) := by decide +kernel
theorem dX6_spendStep_10 : decode cX6_spendStep 10 = .ok (.aload_n 0, 1) := by decide +kernel
theorem dX6_spendStep_11 : decode cX6_spendStep 11 = .ok (.iconst 5, 1) := by decide +kernel
theorem dX6_spendStep_12 : decode cX6_spendStep 12 = .ok (.invokevirtual 97, 3) := by decide +kernel
theorem dX6_spendStep_15 : decode cX6_spendStep 15 = .ok (.iconst 0, 1) := by decide +kernel
theorem dX6_spendStep_16 : decode cX6_spendStep 16 = .ok (.ireturn, 1) := by decide +kernel
theorem dX6_spendStep_17 : decode cX6_spendStep 17 = .ok (.aload_n 0, 1) := by decide +kernel
theorem dX6_spendStep_18 : decode cX6_spendStep 18 = .ok (.dup, 1) := by decide +kernel
theorem dX6_spendStep_19 : decode cX6_spendStep 19 = .ok (.getfield 65, 3) := by decide +kernel
theorem dX6_spendStep_22 : decode cX6_spendStep 22 = .ok (.iconst 1, 1) := by decide +kernel
theorem dX6_spendStep_23 : decode cX6_spendStep 23 = .ok (.iadd, 1) := by decide +kernel
theorem dX6_spendStep_24 : decode cX6_spendStep 24 = .ok (.putfield 65, 3) := by decide +kernel
theorem dX6_spendStep_27 : decode cX6_spendStep 27 = .ok (.aload_n 0, 1) := by decide +kernel
theorem dX6_spendStep_28 : decode cX6_spendStep 28 = .ok (.getfield 50, 3) := by decide +kernel
theorem dX6_spendStep_31 : decode cX6_spendStep 31 = .ok (.iconst 2, 1) := by decide +kernel
theorem dX6_spendStep_32 : decode cX6_spendStep 32 = .ok (.dup2, 1) := by decide +kernel
theorem dX6_spendStep_33 : decode cX6_spendStep 33 = .ok (.iaload, 1) := by decide +kernel
theorem dX6_spendStep_34 : decode cX6_spendStep 34 = .ok (.iconst 1, 1) := by decide +kernel
theorem dX6_spendStep_35 : decode cX6_spendStep 35 = .ok (.iadd, 1) := by decide +kernel
theorem dX6_spendStep_36 : decode cX6_spendStep 36 = .ok (.iastore, 1) := by decide +kernel
theorem dX6_spendStep_37 : decode cX6_spendStep 37 = .ok (.iconst 1, 1) := by decide +kernel
theorem dX6_spendStep_38 : decode cX6_spendStep 38 = .ok (.ireturn, 1) := by decide +kernel
theorem dX6_fetch_0 : decode cX6_fetch 0 = .ok (.aload_n 0, 1) := by decide +kernel
theorem dX6_fetch_1 : decode cX6_fetch 1 = .ok (.aload_n 1, 1) := by decide +kernel
theorem dX6_fetch_2 : decode cX6_fetch 2 = .ok (.getfield 148, 3) := by decide +kernel
theorem dX6_fetch_5 : decode cX6_fetch 5 = .ok (.putfield 68, 3) := by decide +kernel
theorem dX6_fetch_8 : decode cX6_fetch 8 = .ok (.aload_n 0, 1) := by decide +kernel
theorem dX6_fetch_9 : decode cX6_fetch 9 = .ok (.aload_n 1, 1) := by decide +kernel
theorem dX6_fetch_10 : decode cX6_fetch 10 = .ok (.getfield 151, 3) := by decide +kernel
theorem dX6_fetch_13 : decode cX6_fetch 13 = .ok (.putfield 71, 3) := by decide +kernel
theorem dX6_fetch_16 : decode cX6_fetch 16 = .ok (.aload_n 0, 1) := by decide +kernel
theorem dX6_fetch_17 : decode cX6_fetch 17 = .ok (.invokevirtual 123, 3) := by decide +kernel
theorem dX6_fetch_20 : decode cX6_fetch 20 = .ok (.ifCond .ne 5, 3) := by decide +kernel
theorem dX6_fetch_23 : decode cX6_fetch 23 = .ok (.iconst 0, 1) := by decide +kernel
theorem dX6_fetch_24 : decode cX6_fetch 24 = .ok (.ireturn, 1) := by decide +kernel
theorem dX6_fetch_25 : decode cX6_fetch 25 = .ok (.aload_n 1, 1) := by decide +kernel
theorem dX6_fetch_26 : decode cX6_fetch 26 = .ok (.invokevirtual 154, 3) := by decide +kernel
theorem dX6_fetch_29 : decode cX6_fetch 29 = .ok (.ifCond .eq 38, 3) := by decide +kernel
theorem dX6_fetch_32 : decode cX6_fetch 32 = .ok (.aload_n 0, 1) := by decide +kernel
theorem dX6_fetch_33 : decode cX6_fetch 33 = .ok (.getfield 50, 3) := by decide +kernel
theorem dX6_fetch_36 : decode cX6_fetch 36 = .ok (.iconst 3, 1) := by decide +kernel
theorem dX6_fetch_37 : decode cX6_fetch 37 = .ok (.dup2, 1) := by decide +kernel
theorem dX6_fetch_38 : decode cX6_fetch 38 = .ok (.iaload, 1) := by decide +kernel
theorem dX6_fetch_39 : decode cX6_fetch 39 = .ok (.iconst 1, 1) := by decide +kernel
theorem dX6_fetch_40 : decode cX6_fetch 40 = .ok (.iadd, 1) := by decide +kernel
theorem dX6_fetch_41 : decode cX6_fetch 41 = .ok (.iastore, 1) := by decide +kernel
theorem dX6_fetch_42 : decode cX6_fetch 42 = .ok (.aload_n 0, 1) := by decide +kernel
theorem dX6_fetch_43 : decode cX6_fetch 43 = .ok (.aload_n 1, 1) := by decide +kernel
theorem dX6_fetch_44 : decode cX6_fetch 44 = .ok (.getfield 119, 3) := by decide +kernel
theorem dX6_fetch_47 : decode cX6_fetch 47 = .ok (.getfield 157, 3) := by decide +kernel
theorem dX6_fetch_50 : decode cX6_fetch 50 = .ok (.putfield 36, 3) := by decide +kernel
theorem dX6_fetch_53 : decode cX6_fetch 53 = .ok (.aload_n 0, 1) := by decide +kernel
theorem dX6_fetch_54 : decode cX6_fetch 54 = .ok (.aload_n 1, 1) := by decide +kernel
theorem dX6_fetch_55 : decode cX6_fetch 55 = .ok (.getfield 160, 3) := by decide +kernel
theorem dX6_fetch_58 : decode cX6_fetch 58 = .ok (.bipush 11, 2) := by decide +kernel
theorem dX6_fetch_60 : decode cX6_fetch 60 = .ok (.imul, 1) := by decide +kernel
theorem dX6_fetch_61 : decode cX6_fetch 61 = .ok (.putfield 163, 3) := by decide +kernel
theorem dX6_fetch_64 : decode cX6_fetch 64 = .ok (.goto 53, 3) := by decide +kernel
theorem dX6_fetch_67 : decode cX6_fetch 67 = .ok (.aload_n 0, 1) := by decide +kernel
theorem dX6_fetch_68 : decode cX6_fetch 68 = .ok (.aload_n 0, 1) := by decide +kernel
theorem dX6_fetch_69 : decode cX6_fetch 69 = .ok (.getfield 33, 3) := by decide +kernel
theorem dX6_fetch_72 : decode cX6_fetch 72 = .ok (.putfield 36, 3) := by decide +kernel
theorem dX6_fetch_75 : decode cX6_fetch 75 = .ok (.aload_n 0, 1) := by decide +kernel
theorem dX6_fetch_76 : decode cX6_fetch 76 = .ok (.iconst 0, 1) := by decide +kernel
theorem dX6_fetch_77 : decode cX6_fetch 77 = .ok (.putfield 163, 3) := by decide +kernel
theorem dX6_fetch_80 : decode cX6_fetch 80 = .ok (.aload_n 0, 1) := by decide +kernel
theorem dX6_fetch_81 : decode cX6_fetch 81 = .ok (.getfield 39, 3) := by decide +kernel
theorem dX6_fetch_84 : decode cX6_fetch 84 = .ok (.aload_n 1, 1) := by decide +kernel
theorem dX6_fetch_85 : decode cX6_fetch 85 = .ok (.getfield 148, 3) := by decide +kernel
theorem dX6_fetch_88 : decode cX6_fetch 88 = .ok (.aload_n 1, 1) := by decide +kernel
theorem dX6_fetch_89 : decode cX6_fetch 89 = .ok (.getfield 151, 3) := by decide +kernel
theorem dX6_fetch_92 : decode cX6_fetch 92 = .ok (.iadd, 1) := by decide +kernel
theorem dX6_fetch_93 : decode cX6_fetch 93 = .ok (.aload_n 1, 1) := by decide +kernel
theorem dX6_fetch_94 : decode cX6_fetch 94 = .ok (.getfield 166, 3) := by decide +kernel
theorem dX6_fetch_97 : decode cX6_fetch 97 = .ok (.aload_n 0, 1) := by decide +kernel
theorem dX6_fetch_98 : decode cX6_fetch 98 = .ok (.getfield 33, 3) := by decide +kernel
theorem dX6_fetch_101 : decode cX6_fetch 101 = .ok (.iconst 0, 1) := by decide +kernel
theorem dX6_fetch_102 : decode cX6_fetch 102 = .ok (.invokevirtual 169, 3) := by decide +kernel
theorem dX6_fetch_105 : decode cX6_fetch 105 = .ok (.istore_n 2, 1) := by decide +kernel
theorem dX6_fetch_106 : decode cX6_fetch 106 = .ok (.iload_n 2, 1) := by decide +kernel
theorem dX6_fetch_107 : decode cX6_fetch 107 = .ok (.ifCond .eq 10, 3) := by decide +kernel
theorem dX6_fetch_110 : decode cX6_fetch 110 = .ok (.aload_n 0, 1) := by decide +kernel
theorem dX6_fetch_111 : decode cX6_fetch 111 = .ok (.iload_n 2, 1) := by decide +kernel
theorem dX6_fetch_112 : decode cX6_fetch 112 = .ok (.invokevirtual 97, 3) := by decide +kernel
theorem dX6_fetch_115 : decode cX6_fetch 115 = .ok (.iconst 0, 1) := by decide +kernel
theorem dX6_fetch_116 : decode cX6_fetch 116 = .ok (.ireturn, 1) := by decide +kernel
theorem dX6_fetch_117 : decode cX6_fetch 117 = .ok (.aload_n 1, 1) := by decide +kernel
theorem dX6_fetch_118 : decode cX6_fetch 118 = .ok (.dup, 1) := by decide +kernel
theorem dX6_fetch_119 : decode cX6_fetch 119 = .ok (.getfield 151, 3) := by decide +kernel
theorem dX6_fetch_122 : decode cX6_fetch 122 = .ok (.aload_n 0, 1) := by decide +kernel
theorem dX6_fetch_123 : decode cX6_fetch 123 = .ok (.getfield 36, 3) := by decide +kernel
theorem dX6_fetch_126 : decode cX6_fetch 126 = .ok (.aload_n 0, 1) := by decide +kernel
theorem dX6_fetch_127 : decode cX6_fetch 127 = .ok (.getfield 163, 3) := by decide +kernel
theorem dX6_fetch_130 : decode cX6_fetch 130 = .ok (.bipush 8, 2) := by decide +kernel
theorem dX6_fetch_132 : decode cX6_fetch 132 = .ok (.iadd, 1) := by decide +kernel
theorem dX6_fetch_133 : decode cX6_fetch 133 = .ok (.iaload, 1) := by decide +kernel
theorem dX6_fetch_134 : decode cX6_fetch 134 = .ok (.iadd, 1) := by decide +kernel
theorem dX6_fetch_135 : decode cX6_fetch 135 = .ok (.putfield 151, 3) := by decide +kernel
theorem dX6_fetch_138 : decode cX6_fetch 138 = .ok (.aload_n 1, 1) := by decide +kernel
theorem dX6_fetch_139 : decode cX6_fetch 139 = .ok (.dup, 1) := by decide +kernel
theorem dX6_fetch_140 : decode cX6_fetch 140 = .ok (.getfield 160, 3) := by decide +kernel
theorem dX6_fetch_143 : decode cX6_fetch 143 = .ok (.iconst 1, 1) := by decide +kernel
theorem dX6_fetch_144 : decode cX6_fetch 144 = .ok (.iadd, 1) := by decide +kernel
theorem dX6_fetch_145 : decode cX6_fetch 145 = .ok (.putfield 160, 3) := by decide +kernel
theorem dX6_fetch_148 : decode cX6_fetch 148 = .ok (.iconst 1, 1) := by decide +kernel
theorem dX6_fetch_149 : decode cX6_fetch 149 = .ok (.ireturn, 1) := by decide +kernel
theorem dX6_carryOut_0 : decode cX6_carryOut 0 = .ok (.aload_n 0, 1) := by decide +kernel
theorem dX6_carryOut_1 : decode cX6_carryOut 1 = .ok (.getfield 36, 3) := by decide +kernel
theorem dX6_carryOut_4 : decode cX6_carryOut 4 = .ok (.aload_n 0, 1) := by decide +kernel
theorem dX6_carryOut_5 : decode cX6_carryOut 5 = .ok (.getfield 163, 3) := by decide +kernel
theorem dX6_carryOut_8 : decode cX6_carryOut 8 = .ok (.iaload, 1) := by decide +kernel
theorem dX6_carryOut_9 : decode cX6_carryOut 9 = .ok (.istore_n 2, 1) := by decide +kernel
theorem dX6_carryOut_10 : decode cX6_carryOut 10 = .ok (.aload_n 0, 1) := by decide +kernel
theorem dX6_carryOut_11 : decode cX6_carryOut 11 = .ok (.getfield 36, 3) := by decide +kernel
theorem dX6_carryOut_14 : decode cX6_carryOut 14 = .ok (.aload_n 0, 1) := by decide +kernel
theorem dX6_carryOut_15 : decode cX6_carryOut 15 = .ok (.getfield 163, 3) := by decide +kernel
theorem dX6_carryOut_18 : decode cX6_carryOut 18 = .ok (.iconst 1, 1) := by decide +kernel
theorem dX6_carryOut_19 : decode cX6_carryOut 19 = .ok (.iadd, 1) := by decide +kernel
theorem dX6_carryOut_20 : decode cX6_carryOut 20 = .ok (.iaload, 1) := by decide +kernel
theorem dX6_carryOut_21 : decode cX6_carryOut 21 = .ok (.istore_n 3, 1) := by decide +kernel
theorem dX6_carryOut_22 : decode cX6_carryOut 22 = .ok (.aload_n 0, 1) := by decide +kernel
theorem dX6_carryOut_23 : decode cX6_carryOut 23 = .ok (.getfield 36, 3) := by decide +kernel
theorem dX6_carryOut_26 : decode cX6_carryOut 26 = .ok (.aload_n 0, 1) := by decide +kernel
theorem dX6_carryOut_27 : decode cX6_carryOut 27 = .ok (.getfield 163, 3) := by decide +kernel
theorem dX6_carryOut_30 : decode cX6_carryOut 30 = .ok (.iconst 2, 1) := by decide +kernel
theorem dX6_carryOut_31 : decode cX6_carryOut 31 = .ok (.iadd, 1) := by decide +kernel
theorem dX6_carryOut_32 : decode cX6_carryOut 32 = .ok (.iaload, 1) := by decide +kernel
theorem dX6_carryOut_33 : decode cX6_carryOut 33 = .ok (.istore 4, 2) := by decide +kernel
theorem dX6_carryOut_35 : decode cX6_carryOut 35 = .ok (.iload_n 2, 1) := by decide +kernel
theorem dX6_carryOut_36 : decode cX6_carryOut 36 = .ok (.tableswitch 302 0 15 #[80, 93, 302, 302, 302, 302, 302, 109, 125, 145, 154, 189, 224, 257, 270, 294], 80) := by decide +kernel
theorem dX6_carryOut_116 : decode cX6_carryOut 116 = .ok (.aload_n 0, 1) := by decide +kernel
theorem dX6_carryOut_117 : decode cX6_carryOut 117 = .ok (.aload_n 0, 1) := by decide +kernel
theorem dX6_carryOut_118 : decode cX6_carryOut 118 = .ok (.aload_n 1, 1) := by decide +kernel
theorem dX6_carryOut_119 : decode cX6_carryOut 119 = .ok (.iload_n 3, 1) := by decide +kernel
theorem dX6_carryOut_120 : decode cX6_carryOut 120 = .ok (.invokevirtual 173, 3) := by decide +kernel
theorem dX6_carryOut_123 : decode cX6_carryOut 123 = .ok (.invokevirtual 177, 3) := by decide +kernel
theorem dX6_carryOut_126 : decode cX6_carryOut 126 = .ok (.goto 219, 3) := by decide +kernel
theorem dX6_carryOut_129 : decode cX6_carryOut 129 = .ok (.aload_n 0, 1) := by decide +kernel
theorem dX6_carryOut_130 : decode cX6_carryOut 130 = .ok (.aload_n 1, 1) := by decide +kernel
theorem dX6_carryOut_131 : decode cX6_carryOut 131 = .ok (.iload_n 3, 1) := by decide +kernel
theorem dX6_carryOut_132 : decode cX6_carryOut 132 = .ok (.aload_n 0, 1) := by decide +kernel
theorem dX6_carryOut_133 : decode cX6_carryOut 133 = .ok (.aload_n 1, 1) := by decide +kernel
theorem dX6_carryOut_134 : decode cX6_carryOut 134 = .ok (.iload 4, 2) := by decide +kernel
theorem dX6_carryOut_136 : decode cX6_carryOut 136 = .ok (.invokevirtual 173, 3) := by decide +kernel
theorem dX6_carryOut_139 : decode cX6_carryOut 139 = .ok (.invokevirtual 180, 3) := by decide +kernel
theorem dX6_carryOut_142 : decode cX6_carryOut 142 = .ok (.goto 203, 3) := by decide +kernel
theorem dX6_carryOut_145 : decode cX6_carryOut 145 = .ok (.aload_n 0, 1) := by decide +kernel
theorem dX6_carryOut_146 : decode cX6_carryOut 146 = .ok (.aload_n 1, 1) := by decide +kernel
theorem dX6_carryOut_147 : decode cX6_carryOut 147 = .ok (.iload_n 3, 1) := by decide +kernel
theorem dX6_carryOut_148 : decode cX6_carryOut 148 = .ok (.aload_n 0, 1) := by decide +kernel
theorem dX6_carryOut_149 : decode cX6_carryOut 149 = .ok (.aload_n 1, 1) := by decide +kernel
theorem dX6_carryOut_150 : decode cX6_carryOut 150 = .ok (.iload 4, 2) := by decide +kernel
theorem dX6_carryOut_152 : decode cX6_carryOut 152 = .ok (.invokevirtual 173, 3) := by decide +kernel
theorem dX6_carryOut_155 : decode cX6_carryOut 155 = .ok (.invokevirtual 184, 3) := by decide +kernel
theorem dX6_carryOut_158 : decode cX6_carryOut 158 = .ok (.goto 187, 3) := by decide +kernel
theorem dX6_carryOut_161 : decode cX6_carryOut 161 = .ok (.aload_n 0, 1) := by decide +kernel
theorem dX6_carryOut_162 : decode cX6_carryOut 162 = .ok (.aload_n 0, 1) := by decide +kernel
theorem dX6_carryOut_163 : decode cX6_carryOut 163 = .ok (.aload_n 1, 1) := by decide +kernel
theorem dX6_carryOut_164 : decode cX6_carryOut 164 = .ok (.iload_n 3, 1) := by decide +kernel
theorem dX6_carryOut_165 : decode cX6_carryOut 165 = .ok (.invokevirtual 173, 3) := by decide +kernel
theorem dX6_carryOut_168 : decode cX6_carryOut 168 = .ok (.aload_n 0, 1) := by decide +kernel
theorem dX6_carryOut_169 : decode cX6_carryOut 169 = .ok (.aload_n 1, 1) := by decide +kernel
theorem dX6_carryOut_170 : decode cX6_carryOut 170 = .ok (.iload 4, 2) := by decide +kernel
theorem dX6_carryOut_172 : decode cX6_carryOut 172 = .ok (.invokevirtual 173, 3) := by decide +kernel
theorem dX6_carryOut_175 : decode cX6_carryOut 175 = .ok (.invokevirtual 187, 3) := by decide +kernel
theorem dX6_carryOut_178 : decode cX6_carryOut 178 = .ok (.goto 167, 3) := by decide +kernel
theorem dX6_carryOut_181 : decode cX6_carryOut 181 = .ok (.aload_n 0, 1) := by decide +kernel
theorem dX6_carryOut_182 : decode cX6_carryOut 182 = .ok (.aload_n 1, 1) := by decide +kernel
theorem dX6_carryOut_183 : decode cX6_carryOut 183 = .ok (.iload_n 3, 1) := by decide +kernel
theorem dX6_carryOut_184 : decode cX6_carryOut 184 = .ok (.invokevirtual 190, 3) := by decide +kernel
theorem dX6_carryOut_187 : decode cX6_carryOut 187 = .ok (.goto 158, 3) := by decide +kernel
theorem dX6_carryOut_190 : decode cX6_carryOut 190 = .ok (.aload_n 0, 1) := by decide +kernel
theorem dX6_carryOut_191 : decode cX6_carryOut 191 = .ok (.aload_n 1, 1) := by decide +kernel
theorem dX6_carryOut_192 : decode cX6_carryOut 192 = .ok (.iload_n 3, 1) := by decide +kernel
theorem dX6_carryOut_193 : decode cX6_carryOut 193 = .ok (.invokevirtual 173, 3) := by decide +kernel
theorem dX6_carryOut_196 : decode cX6_carryOut 196 = .ok (.aload_n 0, 1) := by decide +kernel
theorem dX6_carryOut_197 : decode cX6_carryOut 197 = .ok (.aload_n 1, 1) := by decide +kernel
theorem dX6_carryOut_198 : decode cX6_carryOut 198 = .ok (.iload 4, 2) := by decide +kernel
theorem dX6_carryOut_200 : decode cX6_carryOut 200 = .ok (.invokevirtual 173, 3) := by decide +kernel
theorem dX6_carryOut_203 : decode cX6_carryOut 203 = .ok (.if_icmp .ge 142, 3) := by decide +kernel
theorem dX6_carryOut_206 : decode cX6_carryOut 206 = .ok (.aload_n 0, 1) := by decide +kernel
theorem dX6_carryOut_207 : decode cX6_carryOut 207 = .ok (.aload_n 1, 1) := by decide +kernel
theorem dX6_carryOut_208 : decode cX6_carryOut 208 = .ok (.aload_n 0, 1) := by decide +kernel
theorem dX6_carryOut_209 : decode cX6_carryOut 209 = .ok (.getfield 36, 3) := by decide +kernel
theorem dX6_carryOut_212 : decode cX6_carryOut 212 = .ok (.aload_n 0, 1) := by decide +kernel
theorem dX6_carryOut_213 : decode cX6_carryOut 213 = .ok (.getfield 163, 3) := by decide +kernel
theorem dX6_carryOut_216 : decode cX6_carryOut 216 = .ok (.iconst 3, 1) := by decide +kernel
theorem dX6_carryOut_217 : decode cX6_carryOut 217 = .ok (.iadd, 1) := by decide +kernel
theorem dX6_carryOut_218 : decode cX6_carryOut 218 = .ok (.iaload, 1) := by decide +kernel
theorem dX6_carryOut_219 : decode cX6_carryOut 219 = .ok (.invokevirtual 190, 3) := by decide +kernel
theorem dX6_carryOut_222 : decode cX6_carryOut 222 = .ok (.goto 123, 3) := by decide +kernel
theorem dX6_carryOut_225 : decode cX6_carryOut 225 = .ok (.aload_n 0, 1) := by decide +kernel
theorem dX6_carryOut_226 : decode cX6_carryOut 226 = .ok (.aload_n 1, 1) := by decide +kernel
theorem dX6_carryOut_227 : decode cX6_carryOut 227 = .ok (.iload_n 3, 1) := by decide +kernel
theorem dX6_carryOut_228 : decode cX6_carryOut 228 = .ok (.invokevirtual 173, 3) := by decide +kernel
theorem dX6_carryOut_231 : decode cX6_carryOut 231 = .ok (.aload_n 0, 1) := by decide +kernel
theorem dX6_carryOut_232 : decode cX6_carryOut 232 = .ok (.aload_n 1, 1) := by decide +kernel
theorem dX6_carryOut_233 : decode cX6_carryOut 233 = .ok (.iload 4, 2) := by decide +kernel
theorem dX6_carryOut_235 : decode cX6_carryOut 235 = .ok (.invokevirtual 173, 3) := by decide +kernel
theorem dX6_carryOut_238 : decode cX6_carryOut 238 = .ok (.if_icmp .ne 107, 3) := by decide +kernel
theorem dX6_carryOut_241 : decode cX6_carryOut 241 = .ok (.aload_n 0, 1) := by decide +kernel
theorem dX6_carryOut_242 : decode cX6_carryOut 242 = .ok (.aload_n 1, 1) := by decide +kernel
theorem dX6_carryOut_243 : decode cX6_carryOut 243 = .ok (.aload_n 0, 1) := by decide +kernel
theorem dX6_carryOut_244 : decode cX6_carryOut 244 = .ok (.getfield 36, 3) := by decide +kernel
theorem dX6_carryOut_247 : decode cX6_carryOut 247 = .ok (.aload_n 0, 1) := by decide +kernel
theorem dX6_carryOut_248 : decode cX6_carryOut 248 = .ok (.getfield 163, 3) := by decide +kernel
theorem dX6_carryOut_251 : decode cX6_carryOut 251 = .ok (.iconst 3, 1) := by decide +kernel
theorem dX6_carryOut_252 : decode cX6_carryOut 252 = .ok (.iadd, 1) := by decide +kernel
theorem dX6_carryOut_253 : decode cX6_carryOut 253 = .ok (.iaload, 1) := by decide +kernel
theorem dX6_carryOut_254 : decode cX6_carryOut 254 = .ok (.invokevirtual 190, 3) := by decide +kernel
theorem dX6_carryOut_257 : decode cX6_carryOut 257 = .ok (.goto 88, 3) := by decide +kernel
theorem dX6_carryOut_260 : decode cX6_carryOut 260 = .ok (.aload_n 0, 1) := by decide +kernel
theorem dX6_carryOut_261 : decode cX6_carryOut 261 = .ok (.aload_n 1, 1) := by decide +kernel
theorem dX6_carryOut_262 : decode cX6_carryOut 262 = .ok (.invokevirtual 194, 3) := by decide +kernel
theorem dX6_carryOut_265 : decode cX6_carryOut 265 = .ok (.aload_n 0, 1) := by decide +kernel
theorem dX6_carryOut_266 : decode cX6_carryOut 266 = .ok (.aload_n 0, 1) := by decide +kernel
theorem dX6_carryOut_267 : decode cX6_carryOut 267 = .ok (.aload_n 1, 1) := by decide +kernel
theorem dX6_carryOut_268 : decode cX6_carryOut 268 = .ok (.iload 4, 2) := by decide +kernel
theorem dX6_carryOut_270 : decode cX6_carryOut 270 = .ok (.invokevirtual 173, 3) := by decide +kernel
theorem dX6_carryOut_273 : decode cX6_carryOut 273 = .ok (.invokestatic 197, 3) := by decide +kernel
theorem dX6_carryOut_276 : decode cX6_carryOut 276 = .ok (.aload_n 0, 1) := by decide +kernel
theorem dX6_carryOut_277 : decode cX6_carryOut 277 = .ok (.getfield 36, 3) := by decide +kernel
theorem dX6_carryOut_280 : decode cX6_carryOut 280 = .ok (.aload_n 0, 1) := by decide +kernel
theorem dX6_carryOut_281 : decode cX6_carryOut 281 = .ok (.getfield 163, 3) := by decide +kernel
theorem dX6_carryOut_284 : decode cX6_carryOut 284 = .ok (.iconst 3, 1) := by decide +kernel
theorem dX6_carryOut_285 : decode cX6_carryOut 285 = .ok (.iadd, 1) := by decide +kernel
theorem dX6_carryOut_286 : decode cX6_carryOut 286 = .ok (.iaload, 1) := by decide +kernel
theorem dX6_carryOut_287 : decode cX6_carryOut 287 = .ok (.invokevirtual 74, 3) := by decide +kernel
theorem dX6_carryOut_290 : decode cX6_carryOut 290 = .ok (.goto 55, 3) := by decide +kernel
theorem dX6_carryOut_293 : decode cX6_carryOut 293 = .ok (.aload_n 0, 1) := by decide +kernel
theorem dX6_carryOut_294 : decode cX6_carryOut 294 = .ok (.aload_n 0, 1) := by decide +kernel
theorem dX6_carryOut_295 : decode cX6_carryOut 295 = .ok (.aload_n 1, 1) := by decide +kernel
theorem dX6_carryOut_296 : decode cX6_carryOut 296 = .ok (.iload_n 3, 1) := by decide +kernel
theorem dX6_carryOut_297 : decode cX6_carryOut 297 = .ok (.invokevirtual 173, 3) := by decide +kernel
theorem dX6_carryOut_300 : decode cX6_carryOut 300 = .ok (.invokevirtual 200, 3) := by decide +kernel
theorem dX6_carryOut_303 : decode cX6_carryOut 303 = .ok (.goto 42, 3) := by decide +kernel
theorem dX6_carryOut_306 : decode cX6_carryOut 306 = .ok (.aload_n 1, 1) := by decide +kernel
theorem dX6_carryOut_307 : decode cX6_carryOut 307 = .ok (.iload_n 3, 1) := by decide +kernel
theorem dX6_carryOut_308 : decode cX6_carryOut 308 = .ok (.putfield 203, 3) := by decide +kernel
theorem dX6_carryOut_311 : decode cX6_carryOut 311 = .ok (.aload_n 1, 1) := by decide +kernel
theorem dX6_carryOut_312 : decode cX6_carryOut 312 = .ok (.aload_n 0, 1) := by decide +kernel
theorem dX6_carryOut_313 : decode cX6_carryOut 313 = .ok (.getfield 36, 3) := by decide +kernel
theorem dX6_carryOut_316 : decode cX6_carryOut 316 = .ok (.aload_n 0, 1) := by decide +kernel
theorem dX6_carryOut_317 : decode cX6_carryOut 317 = .ok (.getfield 163, 3) := by decide +kernel
theorem dX6_carryOut_320 : decode cX6_carryOut 320 = .ok (.bipush 10, 2) := by decide +kernel
theorem dX6_carryOut_322 : decode cX6_carryOut 322 = .ok (.iadd, 1) := by decide +kernel
theorem dX6_carryOut_323 : decode cX6_carryOut 323 = .ok (.iaload, 1) := by decide +kernel
theorem dX6_carryOut_324 : decode cX6_carryOut 324 = .ok (.putfield 206, 3) := by decide +kernel
theorem dX6_carryOut_327 : decode cX6_carryOut 327 = .ok (.goto 18, 3) := by decide +kernel
theorem dX6_carryOut_330 : decode cX6_carryOut 330 = .ok (.aload_n 0, 1) := by decide +kernel
theorem dX6_carryOut_331 : decode cX6_carryOut 331 = .ok (.iconst 0, 1) := by decide +kernel
theorem dX6_carryOut_332 : decode cX6_carryOut 332 = .ok (.invokevirtual 177, 3) := by decide +kernel
theorem dX6_carryOut_335 : decode cX6_carryOut 335 = .ok (.goto 10, 3) := by decide +kernel
theorem dX6_carryOut_338 : decode cX6_carryOut 338 = .ok (.aload_n 0, 1) := by decide +kernel
theorem dX6_carryOut_339 : decode cX6_carryOut 339 = .ok (.aload_n 1, 1) := by decide +kernel
theorem dX6_carryOut_340 : decode cX6_carryOut 340 = .ok (.iload_n 2, 1) := by decide +kernel
theorem dX6_carryOut_341 : decode cX6_carryOut 341 = .ok (.iload_n 3, 1) := by decide +kernel
theorem dX6_carryOut_342 : decode cX6_carryOut 342 = .ok (.invokevirtual 209, 3) := by decide +kernel
theorem dX6_carryOut_345 : decode cX6_carryOut 345 = .ok (.return_, 1) := by decide +kernel
theorem dX6_reckon_0 : decode cX6_reckon 0 = .ok (.aload_n 0, 1) := by decide +kernel
theorem dX6_reckon_1 : decode cX6_reckon 1 = .ok (.aload_n 1, 1) := by decide +kernel
theorem dX6_reckon_2 : decode cX6_reckon 2 = .ok (.aload_n 0, 1) := by decide +kernel
theorem dX6_reckon_3 : decode cX6_reckon 3 = .ok (.getfield 36, 3) := by decide +kernel
theorem dX6_reckon_6 : decode cX6_reckon 6 = .ok (.aload_n 0, 1) := by decide +kernel
theorem dX6_reckon_7 : decode cX6_reckon 7 = .ok (.getfield 163, 3) := by decide +kernel
theorem dX6_reckon_10 : decode cX6_reckon 10 = .ok (.iconst 2, 1) := by decide +kernel
theorem dX6_reckon_11 : decode cX6_reckon 11 = .ok (.iadd, 1) := by decide +kernel
theorem dX6_reckon_12 : decode cX6_reckon 12 = .ok (.iaload, 1) := by decide +kernel
theorem dX6_reckon_13 : decode cX6_reckon 13 = .ok (.invokevirtual 173, 3) := by decide +kernel
theorem dX6_reckon_16 : decode cX6_reckon 16 = .ok (.istore 4, 2) := by decide +kernel
theorem dX6_reckon_18 : decode cX6_reckon 18 = .ok (.aload_n 0, 1) := by decide +kernel
theorem dX6_reckon_19 : decode cX6_reckon 19 = .ok (.aload_n 1, 1) := by decide +kernel
theorem dX6_reckon_20 : decode cX6_reckon 20 = .ok (.aload_n 0, 1) := by decide +kernel
theorem dX6_reckon_21 : decode cX6_reckon 21 = .ok (.getfield 36, 3) := by decide +kernel
theorem dX6_reckon_24 : decode cX6_reckon 24 = .ok (.aload_n 0, 1) := by decide +kernel
theorem dX6_reckon_25 : decode cX6_reckon 25 = .ok (.getfield 163, 3) := by decide +kernel
theorem dX6_reckon_28 : decode cX6_reckon 28 = .ok (.iconst 3, 1) := by decide +kernel
theorem dX6_reckon_29 : decode cX6_reckon 29 = .ok (.iadd, 1) := by decide +kernel
theorem dX6_reckon_30 : decode cX6_reckon 30 = .ok (.iaload, 1) := by decide +kernel
theorem dX6_reckon_31 : decode cX6_reckon 31 = .ok (.invokevirtual 173, 3) := by decide +kernel
theorem dX6_reckon_34 : decode cX6_reckon 34 = .ok (.istore 5, 2) := by decide +kernel
theorem dX6_reckon_36 : decode cX6_reckon 36 = .ok (.iload 5, 2) := by decide +kernel
theorem dX6_reckon_38 : decode cX6_reckon 38 = .ok (.ifCond .ne 20, 3) := by decide +kernel
theorem dX6_reckon_41 : decode cX6_reckon 41 = .ok (.iload_n 2, 1) := by decide +kernel
theorem dX6_reckon_42 : decode cX6_reckon 42 = .ok (.iconst 5, 1) := by decide +kernel
theorem dX6_reckon_43 : decode cX6_reckon 43 = .ok (.if_icmp .eq 9, 3) := by decide +kernel
end
section
theorem dX6_reckon_46 : decode cX6_reckon 46 = .ok (.iload_n 2, 1) := by decide +kernel
theorem dX6_reckon_47 : decode cX6_reckon 47 = .ok (.bipush 6, 2) := by decide +kernel
theorem dX6_reckon_49 : decode cX6_reckon 49 = .ok (.if_icmp .ne 9, 3) := by decide +kernel
theorem dX6_reckon_52 : decode cX6_reckon 52 = .ok (.aload_n 0, 1) := by decide +kernel
theorem dX6_reckon_53 : decode cX6_reckon 53 = .ok (.iconst 2, 1) := by decide +kernel
theorem dX6_reckon_54 : decode cX6_reckon 54 = .ok (.invokevirtual 97, 3) := by decide +kernel
theorem dX6_reckon_57 : decode cX6_reckon 57 = .ok (.return_, 1) := by decide +kernel
theorem dX6_reckon_58 : decode cX6_reckon 58 = .ok (.iload_n 2, 1) := by decide +kernel
theorem dX6_reckon_59 : decode cX6_reckon 59 = .ok (.tableswitch 97 2 5 #[29, 43, 57, 71], 29) := by decide +kernel
theorem dX6_reckon_88 : decode cX6_reckon 88 = .ok (.aload_n 0, 1) := by decide +kernel
theorem dX6_reckon_89 : decode cX6_reckon 89 = .ok (.aload_n 1, 1) := by decide +kernel
theorem dX6_reckon_90 : decode cX6_reckon 90 = .ok (.iload_n 3, 1) := by decide +kernel
theorem dX6_reckon_91 : decode cX6_reckon 91 = .ok (.iload 4, 2) := by decide +kernel
theorem dX6_reckon_93 : decode cX6_reckon 93 = .ok (.iload 5, 2) := by decide +kernel
theorem dX6_reckon_95 : decode cX6_reckon 95 = .ok (.iadd, 1) := by decide +kernel
theorem dX6_reckon_96 : decode cX6_reckon 96 = .ok (.invokevirtual 180, 3) := by decide +kernel
theorem dX6_reckon_99 : decode cX6_reckon 99 = .ok (.goto 78, 3) := by decide +kernel
theorem dX6_reckon_102 : decode cX6_reckon 102 = .ok (.aload_n 0, 1) := by decide +kernel
theorem dX6_reckon_103 : decode cX6_reckon 103 = .ok (.aload_n 1, 1) := by decide +kernel
theorem dX6_reckon_104 : decode cX6_reckon 104 = .ok (.iload_n 3, 1) := by decide +kernel
theorem dX6_reckon_105 : decode cX6_reckon 105 = .ok (.iload 4, 2) := by decide +kernel
theorem dX6_reckon_107 : decode cX6_reckon 107 = .ok (.iload 5, 2) := by decide +kernel
theorem dX6_reckon_109 : decode cX6_reckon 109 = .ok (.isub, 1) := by decide +kernel
theorem dX6_reckon_110 : decode cX6_reckon 110 = .ok (.invokevirtual 180, 3) := by decide +kernel
theorem dX6_reckon_113 : decode cX6_reckon 113 = .ok (.goto 64, 3) := by decide +kernel
theorem dX6_reckon_116 : decode cX6_reckon 116 = .ok (.aload_n 0, 1) := by decide +kernel
theorem dX6_reckon_117 : decode cX6_reckon 117 = .ok (.aload_n 1, 1) := by decide +kernel
theorem dX6_reckon_118 : decode cX6_reckon 118 = .ok (.iload_n 3, 1) := by decide +kernel
theorem dX6_reckon_119 : decode cX6_reckon 119 = .ok (.iload 4, 2) := by decide +kernel
theorem dX6_reckon_121 : decode cX6_reckon 121 = .ok (.iload 5, 2) := by decide +kernel
theorem dX6_reckon_123 : decode cX6_reckon 123 = .ok (.imul, 1) := by decide +kernel
theorem dX6_reckon_124 : decode cX6_reckon 124 = .ok (.invokevirtual 180, 3) := by decide +kernel
theorem dX6_reckon_127 : decode cX6_reckon 127 = .ok (.goto 50, 3) := by decide +kernel
theorem dX6_reckon_130 : decode cX6_reckon 130 = .ok (.aload_n 0, 1) := by decide +kernel
theorem dX6_reckon_131 : decode cX6_reckon 131 = .ok (.aload_n 1, 1) := by decide +kernel
theorem dX6_reckon_132 : decode cX6_reckon 132 = .ok (.iload_n 3, 1) := by decide +kernel
theorem dX6_reckon_133 : decode cX6_reckon 133 = .ok (.iload 5, 2) := by decide +kernel
theorem dX6_reckon_135 : decode cX6_reckon 135 = .ok (.iconst (-1), 1) := by decide +kernel
theorem dX6_reckon_136 : decode cX6_reckon 136 = .ok (.if_icmp .ne 9, 3) := by decide +kernel
theorem dX6_reckon_139 : decode cX6_reckon 139 = .ok (.iload 4, 2) := by decide +kernel
theorem dX6_reckon_141 : decode cX6_reckon 141 = .ok (.ineg, 1) := by decide +kernel
theorem dX6_reckon_142 : decode cX6_reckon 142 = .ok (.goto 8, 3) := by decide +kernel
theorem dX6_reckon_145 : decode cX6_reckon 145 = .ok (.iload 4, 2) := by decide +kernel
theorem dX6_reckon_147 : decode cX6_reckon 147 = .ok (.iload 5, 2) := by decide +kernel
theorem dX6_reckon_149 : decode cX6_reckon 149 = .ok (.idiv, 1) := by decide +kernel
theorem dX6_reckon_150 : decode cX6_reckon 150 = .ok (.invokevirtual 180, 3) := by decide +kernel
theorem dX6_reckon_153 : decode cX6_reckon 153 = .ok (.goto 24, 3) := by decide +kernel
theorem dX6_reckon_156 : decode cX6_reckon 156 = .ok (.aload_n 0, 1) := by decide +kernel
theorem dX6_reckon_157 : decode cX6_reckon 157 = .ok (.aload_n 1, 1) := by decide +kernel
theorem dX6_reckon_158 : decode cX6_reckon 158 = .ok (.iload_n 3, 1) := by decide +kernel
theorem dX6_reckon_159 : decode cX6_reckon 159 = .ok (.iload 5, 2) := by decide +kernel
theorem dX6_reckon_161 : decode cX6_reckon 161 = .ok (.iconst (-1), 1) := by decide +kernel
theorem dX6_reckon_162 : decode cX6_reckon 162 = .ok (.if_icmp .ne 7, 3) := by decide +kernel
theorem dX6_reckon_165 : decode cX6_reckon 165 = .ok (.iconst 0, 1) := by decide +kernel
theorem dX6_reckon_166 : decode cX6_reckon 166 = .ok (.goto 8, 3) := by decide +kernel
theorem dX6_reckon_169 : decode cX6_reckon 169 = .ok (.iload 4, 2) := by decide +kernel
theorem dX6_reckon_171 : decode cX6_reckon 171 = .ok (.iload 5, 2) := by decide +kernel
theorem dX6_reckon_173 : decode cX6_reckon 173 = .ok (.irem, 1) := by decide +kernel
theorem dX6_reckon_174 : decode cX6_reckon 174 = .ok (.invokevirtual 180, 3) := by decide +kernel
theorem dX6_reckon_177 : decode cX6_reckon 177 = .ok (.return_, 1) := by decide +kernel
theorem dX6_load_0 : decode cX6_load 0 = .ok (.iload_n 3, 1) := by decide +kernel
theorem dX6_load_1 : decode cX6_load 1 = .ok (.invokestatic 145, 3) := by decide +kernel
theorem dX6_load_4 : decode cX6_load 4 = .ok (.ifCond .ne 9, 3) := by decide +kernel
theorem dX6_load_7 : decode cX6_load 7 = .ok (.aload_n 0, 1) := by decide +kernel
theorem dX6_load_8 : decode cX6_load 8 = .ok (.iconst 1, 1) := by decide +kernel
theorem dX6_load_9 : decode cX6_load 9 = .ok (.invokevirtual 97, 3) := by decide +kernel
theorem dX6_load_12 : decode cX6_load 12 = .ok (.return_, 1) := by decide +kernel
theorem dX6_load_13 : decode cX6_load 13 = .ok (.aload_n 0, 1) := by decide +kernel
theorem dX6_load_14 : decode cX6_load 14 = .ok (.aload_n 1, 1) := by decide +kernel
theorem dX6_load_15 : decode cX6_load 15 = .ok (.iload_n 2, 1) := by decide +kernel
theorem dX6_load_16 : decode cX6_load 16 = .ok (.aload_n 0, 1) := by decide +kernel
theorem dX6_load_17 : decode cX6_load 17 = .ok (.getfield 39, 3) := by decide +kernel
theorem dX6_load_20 : decode cX6_load 20 = .ok (.getfield 106, 3) := by decide +kernel
theorem dX6_load_23 : decode cX6_load 23 = .ok (.iload_n 3, 1) := by decide +kernel
theorem dX6_load_24 : decode cX6_load 24 = .ok (.iaload, 1) := by decide +kernel
theorem dX6_load_25 : decode cX6_load 25 = .ok (.invokevirtual 180, 3) := by decide +kernel
theorem dX6_load_28 : decode cX6_load 28 = .ok (.return_, 1) := by decide +kernel
theorem dX6_store_0 : decode cX6_store 0 = .ok (.iload_n 1, 1) := by decide +kernel
theorem dX6_store_1 : decode cX6_store 1 = .ok (.invokestatic 145, 3) := by decide +kernel
theorem dX6_store_4 : decode cX6_store 4 = .ok (.ifCond .ne 9, 3) := by decide +kernel
theorem dX6_store_7 : decode cX6_store 7 = .ok (.aload_n 0, 1) := by decide +kernel
theorem dX6_store_8 : decode cX6_store 8 = .ok (.iconst 1, 1) := by decide +kernel
theorem dX6_store_9 : decode cX6_store 9 = .ok (.invokevirtual 97, 3) := by decide +kernel
theorem dX6_store_12 : decode cX6_store 12 = .ok (.return_, 1) := by decide +kernel
theorem dX6_store_13 : decode cX6_store 13 = .ok (.aload_n 0, 1) := by decide +kernel
theorem dX6_store_14 : decode cX6_store 14 = .ok (.getfield 39, 3) := by decide +kernel
theorem dX6_store_17 : decode cX6_store 17 = .ok (.iload_n 1, 1) := by decide +kernel
theorem dX6_store_18 : decode cX6_store 18 = .ok (.iload_n 2, 1) := by decide +kernel
theorem dX6_store_19 : decode cX6_store 19 = .ok (.invokevirtual 214, 3) := by decide +kernel
theorem dX6_store_22 : decode cX6_store 22 = .ok (.pop, 1) := by decide +kernel
theorem dX6_store_23 : decode cX6_store 23 = .ok (.return_, 1) := by decide +kernel
theorem dX6_jump_0 : decode cX6_jump 0 = .ok (.aload_n 1, 1) := by decide +kernel
theorem dX6_jump_1 : decode cX6_jump 1 = .ok (.iload_n 2, 1) := by decide +kernel
theorem dX6_jump_2 : decode cX6_jump 2 = .ok (.putfield 151, 3) := by decide +kernel
theorem dX6_jump_5 : decode cX6_jump 5 = .ok (.aload_n 1, 1) := by decide +kernel
theorem dX6_jump_6 : decode cX6_jump 6 = .ok (.aload_n 0, 1) := by decide +kernel
theorem dX6_jump_7 : decode cX6_jump 7 = .ok (.getfield 36, 3) := by decide +kernel
theorem dX6_jump_10 : decode cX6_jump 10 = .ok (.aload_n 0, 1) := by decide +kernel
theorem dX6_jump_11 : decode cX6_jump 11 = .ok (.getfield 163, 3) := by decide +kernel
theorem dX6_jump_14 : decode cX6_jump 14 = .ok (.bipush 10, 2) := by decide +kernel
theorem dX6_jump_16 : decode cX6_jump 16 = .ok (.iadd, 1) := by decide +kernel
theorem dX6_jump_17 : decode cX6_jump 17 = .ok (.iaload, 1) := by decide +kernel
theorem dX6_jump_18 : decode cX6_jump 18 = .ok (.putfield 160, 3) := by decide +kernel
theorem dX6_jump_21 : decode cX6_jump 21 = .ok (.return_, 1) := by decide +kernel
theorem dX6_handOver_0 : decode cX6_handOver 0 = .ok (.aload_n 0, 1) := by decide +kernel
theorem dX6_handOver_1 : decode cX6_handOver 1 = .ok (.getfield 36, 3) := by decide +kernel
theorem dX6_handOver_4 : decode cX6_handOver 4 = .ok (.aload_n 0, 1) := by decide +kernel
theorem dX6_handOver_5 : decode cX6_handOver 5 = .ok (.getfield 163, 3) := by decide +kernel
theorem dX6_handOver_8 : decode cX6_handOver 8 = .ok (.iconst 3, 1) := by decide +kernel
theorem dX6_handOver_9 : decode cX6_handOver 9 = .ok (.iadd, 1) := by decide +kernel
theorem dX6_handOver_10 : decode cX6_handOver 10 = .ok (.iaload, 1) := by decide +kernel
theorem dX6_handOver_11 : decode cX6_handOver 11 = .ok (.istore_n 2, 1) := by decide +kernel
theorem dX6_handOver_12 : decode cX6_handOver 12 = .ok (.iconst 0, 1) := by decide +kernel
theorem dX6_handOver_13 : decode cX6_handOver 13 = .ok (.istore_n 3, 1) := by decide +kernel
theorem dX6_handOver_14 : decode cX6_handOver 14 = .ok (.iload_n 3, 1) := by decide +kernel
theorem dX6_handOver_15 : decode cX6_handOver 15 = .ok (.iload_n 2, 1) := by decide +kernel
theorem dX6_handOver_16 : decode cX6_handOver 16 = .ok (.if_icmp .ge 38, 3) := by decide +kernel
theorem dX6_handOver_19 : decode cX6_handOver 19 = .ok (.iload_n 3, 1) := by decide +kernel
theorem dX6_handOver_20 : decode cX6_handOver 20 = .ok (.iconst 4, 1) := by decide +kernel
theorem dX6_handOver_21 : decode cX6_handOver 21 = .ok (.if_icmp .ge 33, 3) := by decide +kernel
theorem dX6_handOver_24 : decode cX6_handOver 24 = .ok (.aload_n 0, 1) := by decide +kernel
theorem dX6_handOver_25 : decode cX6_handOver 25 = .ok (.getfield 28, 3) := by decide +kernel
theorem dX6_handOver_28 : decode cX6_handOver 28 = .ok (.iload_n 3, 1) := by decide +kernel
theorem dX6_handOver_29 : decode cX6_handOver 29 = .ok (.aload_n 0, 1) := by decide +kernel
theorem dX6_handOver_30 : decode cX6_handOver 30 = .ok (.aload_n 1, 1) := by decide +kernel
theorem dX6_handOver_31 : decode cX6_handOver 31 = .ok (.aload_n 0, 1) := by decide +kernel
theorem dX6_handOver_32 : decode cX6_handOver 32 = .ok (.getfield 36, 3) := by decide +kernel
theorem dX6_handOver_35 : decode cX6_handOver 35 = .ok (.aload_n 0, 1) := by decide +kernel
theorem dX6_handOver_36 : decode cX6_handOver 36 = .ok (.getfield 163, 3) := by decide +kernel
theorem dX6_handOver_39 : decode cX6_handOver 39 = .ok (.iconst 4, 1) := by decide +kernel
theorem dX6_handOver_40 : decode cX6_handOver 40 = .ok (.iadd, 1) := by decide +kernel
theorem dX6_handOver_41 : decode cX6_handOver 41 = .ok (.iload_n 3, 1) := by decide +kernel
theorem dX6_handOver_42 : decode cX6_handOver 42 = .ok (.iadd, 1) := by decide +kernel
theorem dX6_handOver_43 : decode cX6_handOver 43 = .ok (.iaload, 1) := by decide +kernel
theorem dX6_handOver_44 : decode cX6_handOver 44 = .ok (.invokevirtual 173, 3) := by decide +kernel
theorem dX6_handOver_47 : decode cX6_handOver 47 = .ok (.iastore, 1) := by decide +kernel
theorem dX6_handOver_48 : decode cX6_handOver 48 = .ok (.iinc 3 1, 3) := by decide +kernel
theorem dX6_handOver_51 : decode cX6_handOver 51 = .ok (.goto (-37), 3) := by decide +kernel
theorem dX6_handOver_54 : decode cX6_handOver 54 = .ok (.aload_n 1, 1) := by decide +kernel
theorem dX6_handOver_55 : decode cX6_handOver 55 = .ok (.aload_n 0, 1) := by decide +kernel
theorem dX6_handOver_56 : decode cX6_handOver 56 = .ok (.getfield 36, 3) := by decide +kernel
theorem dX6_handOver_59 : decode cX6_handOver 59 = .ok (.aload_n 0, 1) := by decide +kernel
theorem dX6_handOver_60 : decode cX6_handOver 60 = .ok (.getfield 163, 3) := by decide +kernel
theorem dX6_handOver_63 : decode cX6_handOver 63 = .ok (.iconst 1, 1) := by decide +kernel
theorem dX6_handOver_64 : decode cX6_handOver 64 = .ok (.iadd, 1) := by decide +kernel
theorem dX6_handOver_65 : decode cX6_handOver 65 = .ok (.iaload, 1) := by decide +kernel
theorem dX6_handOver_66 : decode cX6_handOver 66 = .ok (.putfield 217, 3) := by decide +kernel
theorem dX6_handOver_69 : decode cX6_handOver 69 = .ok (.return_, 1) := by decide +kernel
theorem dX6_addressFor_0 : decode cX6_addressFor 0 = .ok (.iload_n 0, 1) := by decide +kernel
theorem dX6_addressFor_1 : decode cX6_addressFor 1 = .ok (.ifCond .lt 16, 3) := by decide +kernel
theorem dX6_addressFor_4 : decode cX6_addressFor 4 = .ok (.iload_n 0, 1) := by decide +kernel
theorem dX6_addressFor_5 : decode cX6_addressFor 5 = .ok (.sipush 256, 3) := by decide +kernel
theorem dX6_addressFor_8 : decode cX6_addressFor 8 = .ok (.if_icmp .ge 9, 3) := by decide +kernel
theorem dX6_addressFor_11 : decode cX6_addressFor 11 = .ok (.iconst 4, 1) := by decide +kernel
theorem dX6_addressFor_12 : decode cX6_addressFor 12 = .ok (.iload_n 0, 1) := by decide +kernel
theorem dX6_addressFor_13 : decode cX6_addressFor 13 = .ok (.imul, 1) := by decide +kernel
theorem dX6_addressFor_14 : decode cX6_addressFor 14 = .ok (.goto 4, 3) := by decide +kernel
theorem dX6_addressFor_17 : decode cX6_addressFor 17 = .ok (.iconst (-1), 1) := by decide +kernel
theorem dX6_addressFor_18 : decode cX6_addressFor 18 = .ok (.ireturn, 1) := by decide +kernel
theorem dX6_leave_0 : decode cX6_leave 0 = .ok (.aload_n 0, 1) := by decide +kernel
theorem dX6_leave_1 : decode cX6_leave 1 = .ok (.dup, 1) := by decide +kernel
theorem dX6_leave_2 : decode cX6_leave 2 = .ok (.getfield 61, 3) := by decide +kernel
theorem dX6_leave_5 : decode cX6_leave 5 = .ok (.iconst 1, 1) := by decide +kernel
theorem dX6_leave_6 : decode cX6_leave 6 = .ok (.isub, 1) := by decide +kernel
theorem dX6_leave_7 : decode cX6_leave 7 = .ok (.putfield 61, 3) := by decide +kernel
theorem dX6_leave_10 : decode cX6_leave 10 = .ok (.aload_n 0, 1) := by decide +kernel
theorem dX6_leave_11 : decode cX6_leave 11 = .ok (.iload_n 1, 1) := by decide +kernel
theorem dX6_leave_12 : decode cX6_leave 12 = .ok (.invokevirtual 93, 3) := by decide +kernel
theorem dX6_leave_15 : decode cX6_leave 15 = .ok (.return_, 1) := by decide +kernel
theorem dX6_give_0 : decode cX6_give 0 = .ok (.aload_n 0, 1) := by decide +kernel
theorem dX6_give_1 : decode cX6_give 1 = .ok (.getfield 61, 3) := by decide +kernel
theorem dX6_give_4 : decode cX6_give 4 = .ok (.ifCond .ne 12, 3) := by decide +kernel
theorem dX6_give_7 : decode cX6_give 7 = .ok (.aload_n 0, 1) := by decide +kernel
theorem dX6_give_8 : decode cX6_give 8 = .ok (.getfield 12, 3) := by decide +kernel
theorem dX6_give_11 : decode cX6_give 11 = .ok (.iload_n 1, 1) := by decide +kernel
theorem dX6_give_12 : decode cX6_give 12 = .ok (.putfield 220, 3) := by decide +kernel
theorem dX6_give_15 : decode cX6_give 15 = .ok (.return_, 1) := by decide +kernel
theorem dX6_give_16 : decode cX6_give 16 = .ok (.aload_n 0, 1) := by decide +kernel
theorem dX6_give_17 : decode cX6_give 17 = .ok (.getfield 24, 3) := by decide +kernel
theorem dX6_give_20 : decode cX6_give 20 = .ok (.aload_n 0, 1) := by decide +kernel
theorem dX6_give_21 : decode cX6_give 21 = .ok (.getfield 61, 3) := by decide +kernel
theorem dX6_give_24 : decode cX6_give 24 = .ok (.iconst 1, 1) := by decide +kernel
theorem dX6_give_25 : decode cX6_give 25 = .ok (.isub, 1) := by decide +kernel
theorem dX6_give_26 : decode cX6_give 26 = .ok (.aaload, 1) := by decide +kernel
theorem dX6_give_27 : decode cX6_give 27 = .ok (.astore_n 2, 1) := by decide +kernel
theorem dX6_give_28 : decode cX6_give 28 = .ok (.aload_n 0, 1) := by decide +kernel
theorem dX6_give_29 : decode cX6_give 29 = .ok (.aload_n 2, 1) := by decide +kernel
theorem dX6_give_30 : decode cX6_give 30 = .ok (.aload_n 2, 1) := by decide +kernel
theorem dX6_give_31 : decode cX6_give 31 = .ok (.getfield 217, 3) := by decide +kernel
theorem dX6_give_34 : decode cX6_give 34 = .ok (.iload_n 1, 1) := by decide +kernel
theorem dX6_give_35 : decode cX6_give 35 = .ok (.invokevirtual 180, 3) := by decide +kernel
theorem dX6_give_38 : decode cX6_give 38 = .ok (.return_, 1) := by decide +kernel
theorem dX6_throwOut_0 : decode cX6_throwOut 0 = .ok (.aload_n 0, 1) := by decide +kernel
theorem dX6_throwOut_1 : decode cX6_throwOut 1 = .ok (.getfield 61, 3) := by decide +kernel
theorem dX6_throwOut_4 : decode cX6_throwOut 4 = .ok (.iconst 2, 1) := by decide +kernel
theorem dX6_throwOut_5 : decode cX6_throwOut 5 = .ok (.isub, 1) := by decide +kernel
theorem dX6_throwOut_6 : decode cX6_throwOut 6 = .ok (.istore_n 2, 1) := by decide +kernel
theorem dX6_throwOut_7 : decode cX6_throwOut 7 = .ok (.iload_n 2, 1) := by decide +kernel
theorem dX6_throwOut_8 : decode cX6_throwOut 8 = .ok (.ifCond .lt 66, 3) := by decide +kernel
theorem dX6_throwOut_11 : decode cX6_throwOut 11 = .ok (.aload_n 0, 1) := by decide +kernel
theorem dX6_throwOut_12 : decode cX6_throwOut 12 = .ok (.getfield 24, 3) := by decide +kernel
theorem dX6_throwOut_15 : decode cX6_throwOut 15 = .ok (.iload_n 2, 1) := by decide +kernel
theorem dX6_throwOut_16 : decode cX6_throwOut 16 = .ok (.aaload, 1) := by decide +kernel
theorem dX6_throwOut_17 : decode cX6_throwOut 17 = .ok (.astore_n 3, 1) := by decide +kernel
theorem dX6_throwOut_18 : decode cX6_throwOut 18 = .ok (.aload_n 3, 1) := by decide +kernel
theorem dX6_throwOut_19 : decode cX6_throwOut 19 = .ok (.getfield 203, 3) := by decide +kernel
theorem dX6_throwOut_22 : decode cX6_throwOut 22 = .ok (.ifCond .eq 46, 3) := by decide +kernel
theorem dX6_throwOut_25 : decode cX6_throwOut 25 = .ok (.aload_n 0, 1) := by decide +kernel
theorem dX6_throwOut_26 : decode cX6_throwOut 26 = .ok (.iload_n 2, 1) := by decide +kernel
theorem dX6_throwOut_27 : decode cX6_throwOut 27 = .ok (.iconst 1, 1) := by decide +kernel
theorem dX6_throwOut_28 : decode cX6_throwOut 28 = .ok (.iadd, 1) := by decide +kernel
theorem dX6_throwOut_29 : decode cX6_throwOut 29 = .ok (.putfield 61, 3) := by decide +kernel
theorem dX6_throwOut_32 : decode cX6_throwOut 32 = .ok (.aload_n 3, 1) := by decide +kernel
theorem dX6_throwOut_33 : decode cX6_throwOut 33 = .ok (.aload_n 3, 1) := by decide +kernel
theorem dX6_throwOut_34 : decode cX6_throwOut 34 = .ok (.getfield 203, 3) := by decide +kernel
theorem dX6_throwOut_37 : decode cX6_throwOut 37 = .ok (.putfield 151, 3) := by decide +kernel
theorem dX6_throwOut_40 : decode cX6_throwOut 40 = .ok (.aload_n 3, 1) := by decide +kernel
theorem dX6_throwOut_41 : decode cX6_throwOut 41 = .ok (.aload_n 3, 1) := by decide +kernel
theorem dX6_throwOut_42 : decode cX6_throwOut 42 = .ok (.getfield 206, 3) := by decide +kernel
theorem dX6_throwOut_45 : decode cX6_throwOut 45 = .ok (.putfield 160, 3) := by decide +kernel
theorem dX6_throwOut_48 : decode cX6_throwOut 48 = .ok (.aload_n 0, 1) := by decide +kernel
theorem dX6_throwOut_49 : decode cX6_throwOut 49 = .ok (.getfield 47, 3) := by decide +kernel
theorem dX6_throwOut_52 : decode cX6_throwOut 52 = .ok (.bipush 7, 2) := by decide +kernel
theorem dX6_throwOut_54 : decode cX6_throwOut 54 = .ok (.iload_n 1, 1) := by decide +kernel
theorem dX6_throwOut_55 : decode cX6_throwOut 55 = .ok (.iastore, 1) := by decide +kernel
theorem dX6_throwOut_56 : decode cX6_throwOut 56 = .ok (.aload_n 0, 1) := by decide +kernel
theorem dX6_throwOut_57 : decode cX6_throwOut 57 = .ok (.getfield 50, 3) := by decide +kernel
theorem dX6_throwOut_60 : decode cX6_throwOut 60 = .ok (.bipush 7, 2) := by decide +kernel
theorem dX6_throwOut_62 : decode cX6_throwOut 62 = .ok (.dup2, 1) := by decide +kernel
theorem dX6_throwOut_63 : decode cX6_throwOut 63 = .ok (.iaload, 1) := by decide +kernel
theorem dX6_throwOut_64 : decode cX6_throwOut 64 = .ok (.iconst 1, 1) := by decide +kernel
theorem dX6_throwOut_65 : decode cX6_throwOut 65 = .ok (.iadd, 1) := by decide +kernel
theorem dX6_throwOut_66 : decode cX6_throwOut 66 = .ok (.iastore, 1) := by decide +kernel
theorem dX6_throwOut_67 : decode cX6_throwOut 67 = .ok (.return_, 1) := by decide +kernel
theorem dX6_throwOut_68 : decode cX6_throwOut 68 = .ok (.iinc 2 (-1), 3) := by decide +kernel
theorem dX6_throwOut_71 : decode cX6_throwOut 71 = .ok (.goto (-64), 3) := by decide +kernel
theorem dX6_throwOut_74 : decode cX6_throwOut 74 = .ok (.aload_n 0, 1) := by decide +kernel
theorem dX6_throwOut_75 : decode cX6_throwOut 75 = .ok (.getfield 12, 3) := by decide +kernel
theorem dX6_throwOut_78 : decode cX6_throwOut 78 = .ok (.iload_n 1, 1) := by decide +kernel
theorem dX6_throwOut_79 : decode cX6_throwOut 79 = .ok (.putfield 223, 3) := by decide +kernel
theorem dX6_throwOut_82 : decode cX6_throwOut 82 = .ok (.aload_n 0, 1) := by decide +kernel
theorem dX6_throwOut_83 : decode cX6_throwOut 83 = .ok (.bipush 6, 2) := by decide +kernel
theorem dX6_throwOut_85 : decode cX6_throwOut 85 = .ok (.invokevirtual 97, 3) := by decide +kernel
theorem dX6_throwOut_88 : decode cX6_throwOut 88 = .ok (.return_, 1) := by decide +kernel
theorem dX6_fail_0 : decode cX6_fail 0 = .ok (.aload_n 0, 1) := by decide +kernel
theorem dX6_fail_1 : decode cX6_fail 1 = .ok (.getfield 12, 3) := by decide +kernel
theorem dX6_fail_4 : decode cX6_fail 4 = .ok (.iload_n 1, 1) := by decide +kernel
theorem dX6_fail_5 : decode cX6_fail 5 = .ok (.putfield 86, 3) := by decide +kernel
theorem dX6_fail_8 : decode cX6_fail 8 = .ok (.aload_n 0, 1) := by decide +kernel
theorem dX6_fail_9 : decode cX6_fail 9 = .ok (.getfield 12, 3) := by decide +kernel
theorem dX6_fail_12 : decode cX6_fail 12 = .ok (.aload_n 0, 1) := by decide +kernel
theorem dX6_fail_13 : decode cX6_fail 13 = .ok (.getfield 68, 3) := by decide +kernel
theorem dX6_fail_16 : decode cX6_fail 16 = .ok (.putfield 226, 3) := by decide +kernel
theorem dX6_fail_19 : decode cX6_fail 19 = .ok (.aload_n 0, 1) := by decide +kernel
theorem dX6_fail_20 : decode cX6_fail 20 = .ok (.getfield 12, 3) := by decide +kernel
theorem dX6_fail_23 : decode cX6_fail 23 = .ok (.aload_n 0, 1) := by decide +kernel
theorem dX6_fail_24 : decode cX6_fail 24 = .ok (.getfield 71, 3) := by decide +kernel
theorem dX6_fail_27 : decode cX6_fail 27 = .ok (.putfield 227, 3) := by decide +kernel
theorem dX6_fail_30 : decode cX6_fail 30 = .ok (.aload_n 0, 1) := by decide +kernel
theorem dX6_fail_31 : decode cX6_fail 31 = .ok (.getfield 50, 3) := by decide +kernel
theorem dX6_fail_34 : decode cX6_fail 34 = .ok (.bipush 6, 2) := by decide +kernel
theorem dX6_fail_36 : decode cX6_fail 36 = .ok (.dup2, 1) := by decide +kernel
theorem dX6_fail_37 : decode cX6_fail 37 = .ok (.iaload, 1) := by decide +kernel
theorem dX6_fail_38 : decode cX6_fail 38 = .ok (.iconst 1, 1) := by decide +kernel
theorem dX6_fail_39 : decode cX6_fail 39 = .ok (.iadd, 1) := by decide +kernel
theorem dX6_fail_40 : decode cX6_fail 40 = .ok (.iastore, 1) := by decide +kernel
theorem dX6_fail_41 : decode cX6_fail 41 = .ok (.aload_n 0, 1) := by decide +kernel
theorem dX6_fail_42 : decode cX6_fail 42 = .ok (.iconst 0, 1) := by decide +kernel
theorem dX6_fail_43 : decode cX6_fail 43 = .ok (.putfield 61, 3) := by decide +kernel
theorem dX6_fail_46 : decode cX6_fail 46 = .ok (.return_, 1) := by decide +kernel
theorem dX6_valueOf_0 : decode cX6_valueOf 0 = .ok (.iload_n 2, 1) := by decide +kernel
theorem dX6_valueOf_1 : decode cX6_valueOf 1 = .ok (.sipush 128, 3) := by decide +kernel
theorem dX6_valueOf_4 : decode cX6_valueOf 4 = .ok (.if_icmp .ge 5, 3) := by decide +kernel
theorem dX6_valueOf_7 : decode cX6_valueOf 7 = .ok (.iload_n 2, 1) := by decide +kernel
theorem dX6_valueOf_8 : decode cX6_valueOf 8 = .ok (.ireturn, 1) := by decide +kernel
theorem dX6_valueOf_9 : decode cX6_valueOf 9 = .ok (.iload_n 2, 1) := by decide +kernel
theorem dX6_valueOf_10 : decode cX6_valueOf 10 = .ok (.sipush 136, 3) := by decide +kernel
theorem dX6_valueOf_13 : decode cX6_valueOf 13 = .ok (.if_icmp .ge 15, 3) := by decide +kernel
theorem dX6_valueOf_16 : decode cX6_valueOf 16 = .ok (.aload_n 1, 1) := by decide +kernel
theorem dX6_valueOf_17 : decode cX6_valueOf 17 = .ok (.getfield 230, 3) := by decide +kernel
theorem dX6_valueOf_20 : decode cX6_valueOf 20 = .ok (.iload_n 2, 1) := by decide +kernel
theorem dX6_valueOf_21 : decode cX6_valueOf 21 = .ok (.invokestatic 233, 3) := by decide +kernel
theorem dX6_valueOf_24 : decode cX6_valueOf 24 = .ok (.iaload, 1) := by decide +kernel
theorem dX6_valueOf_25 : decode cX6_valueOf 25 = .ok (.goto 12, 3) := by decide +kernel
theorem dX6_valueOf_28 : decode cX6_valueOf 28 = .ok (.aload_n 0, 1) := by decide +kernel
theorem dX6_valueOf_29 : decode cX6_valueOf 29 = .ok (.getfield 47, 3) := by decide +kernel
theorem dX6_valueOf_32 : decode cX6_valueOf 32 = .ok (.iload_n 2, 1) := by decide +kernel
theorem dX6_valueOf_33 : decode cX6_valueOf 33 = .ok (.invokestatic 233, 3) := by decide +kernel
theorem dX6_valueOf_36 : decode cX6_valueOf 36 = .ok (.iaload, 1) := by decide +kernel
theorem dX6_valueOf_37 : decode cX6_valueOf 37 = .ok (.ireturn, 1) := by decide +kernel
theorem dX6_set_0 : decode cX6_set 0 = .ok (.iload_n 2, 1) := by decide +kernel
theorem dX6_set_1 : decode cX6_set 1 = .ok (.sipush 136, 3) := by decide +kernel
theorem dX6_set_4 : decode cX6_set 4 = .ok (.if_icmp .ge 16, 3) := by decide +kernel
theorem dX6_set_7 : decode cX6_set 7 = .ok (.aload_n 1, 1) := by decide +kernel
theorem dX6_set_8 : decode cX6_set 8 = .ok (.getfield 230, 3) := by decide +kernel
theorem dX6_set_11 : decode cX6_set 11 = .ok (.iload_n 2, 1) := by decide +kernel
theorem dX6_set_12 : decode cX6_set 12 = .ok (.invokestatic 233, 3) := by decide +kernel
theorem dX6_set_15 : decode cX6_set 15 = .ok (.iload_n 3, 1) := by decide +kernel
theorem dX6_set_16 : decode cX6_set 16 = .ok (.iastore, 1) := by decide +kernel
theorem dX6_set_17 : decode cX6_set 17 = .ok (.goto 13, 3) := by decide +kernel
theorem dX6_set_20 : decode cX6_set 20 = .ok (.aload_n 0, 1) := by decide +kernel
theorem dX6_set_21 : decode cX6_set 21 = .ok (.getfield 47, 3) := by decide +kernel
theorem dX6_set_24 : decode cX6_set 24 = .ok (.iload_n 2, 1) := by decide +kernel
theorem dX6_set_25 : decode cX6_set 25 = .ok (.invokestatic 233, 3) := by decide +kernel
theorem dX6_set_28 : decode cX6_set 28 = .ok (.iload_n 3, 1) := by decide +kernel
theorem dX6_set_29 : decode cX6_set 29 = .ok (.iastore, 1) := by decide +kernel
theorem dX6_set_30 : decode cX6_set 30 = .ok (.return_, 1) := by decide +kernel
theorem dX6_indexOfCell_0 : decode cX6_indexOfCell 0 = .ok (.iload_n 0, 1) := by decide +kernel
theorem dX6_indexOfCell_1 : decode cX6_indexOfCell 1 = .ok (.bipush 7, 2) := by decide +kernel
theorem dX6_indexOfCell_3 : decode cX6_indexOfCell 3 = .ok (.iand, 1) := by decide +kernel
theorem dX6_indexOfCell_4 : decode cX6_indexOfCell 4 = .ok (.ireturn, 1) := by decide +kernel
theorem dX7_init_0 : decode cX7_init 0 = .ok (.aload_n 0, 1) := by decide +kernel
theorem dX7_init_1 : decode cX7_init 1 = .ok (.invokespecial 3, 3) := by decide +kernel
theorem dX7_init_4 : decode cX7_init 4 = .ok (.aload_n 0, 1) := by decide +kernel
theorem dX7_init_5 : decode cX7_init 5 = .ok (.iload_n 1, 1) := by decide +kernel
theorem dX7_init_6 : decode cX7_init 6 = .ok (.putfield 9, 3) := by decide +kernel
theorem dX7_init_9 : decode cX7_init 9 = .ok (.aload_n 0, 1) := by decide +kernel
theorem dX7_init_10 : decode cX7_init 10 = .ok (.aload_n 2, 1) := by decide +kernel
theorem dX7_init_11 : decode cX7_init 11 = .ok (.putfield 15, 3) := by decide +kernel
theorem dX7_init_14 : decode cX7_init 14 = .ok (.aload_n 0, 1) := by decide +kernel
theorem dX7_init_15 : decode cX7_init 15 = .ok (.iload_n 1, 1) := by decide +kernel
theorem dX7_init_16 : decode cX7_init 16 = .ok (.iconst 1, 1) := by decide +kernel
theorem dX7_init_17 : decode cX7_init 17 = .ok (.iadd, 1) := by decide +kernel
theorem dX7_init_18 : decode cX7_init 18 = .ok (.anewarray 19, 3) := by decide +kernel
theorem dX7_init_21 : decode cX7_init 21 = .ok (.putfield 21, 3) := by decide +kernel
theorem dX7_init_24 : decode cX7_init 24 = .ok (.iconst 0, 1) := by decide +kernel
theorem dX7_init_25 : decode cX7_init 25 = .ok (.istore_n 3, 1) := by decide +kernel
theorem dX7_init_26 : decode cX7_init 26 = .ok (.iload_n 3, 1) := by decide +kernel
theorem dX7_init_27 : decode cX7_init 27 = .ok (.iload_n 1, 1) := by decide +kernel
theorem dX7_init_28 : decode cX7_init 28 = .ok (.if_icmp .gt 22, 3) := by decide +kernel
theorem dX7_init_31 : decode cX7_init 31 = .ok (.aload_n 0, 1) := by decide +kernel
theorem dX7_init_32 : decode cX7_init 32 = .ok (.getfield 21, 3) := by decide +kernel
theorem dX7_init_35 : decode cX7_init 35 = .ok (.iload_n 3, 1) := by decide +kernel
theorem dX7_init_36 : decode cX7_init 36 = .ok (.new 19, 3) := by decide +kernel
theorem dX7_init_39 : decode cX7_init 39 = .ok (.dup, 1) := by decide +kernel
theorem dX7_init_40 : decode cX7_init 40 = .ok (.invokespecial 25, 3) := by decide +kernel
theorem dX7_init_43 : decode cX7_init 43 = .ok (.aastore, 1) := by decide +kernel
theorem dX7_init_44 : decode cX7_init 44 = .ok (.iinc 3 1, 3) := by decide +kernel
theorem dX7_init_47 : decode cX7_init 47 = .ok (.goto (-21), 3) := by decide +kernel
theorem dX7_init_50 : decode cX7_init 50 = .ok (.return_, 1) := by decide +kernel
theorem dX7_draft_0 : decode cX7_draft 0 = .ok (.aload_n 0, 1) := by decide +kernel
theorem dX7_draft_1 : decode cX7_draft 1 = .ok (.getfield 21, 3) := by decide +kernel
theorem dX7_draft_4 : decode cX7_draft 4 = .ok (.aload_n 0, 1) := by decide +kernel
theorem dX7_draft_5 : decode cX7_draft 5 = .ok (.getfield 26, 3) := by decide +kernel
theorem dX7_draft_8 : decode cX7_draft 8 = .ok (.aaload, 1) := by decide +kernel
theorem dX7_draft_9 : decode cX7_draft 9 = .ok (.areturn, 1) := by decide +kernel
theorem dX7_keepDraft_0 : decode cX7_keepDraft 0 = .ok (.aload_n 0, 1) := by decide +kernel
theorem dX7_keepDraft_1 : decode cX7_keepDraft 1 = .ok (.getfield 26, 3) := by decide +kernel
theorem dX7_keepDraft_4 : decode cX7_keepDraft 4 = .ok (.aload_n 0, 1) := by decide +kernel
theorem dX7_keepDraft_5 : decode cX7_keepDraft 5 = .ok (.getfield 9, 3) := by decide +kernel
theorem dX7_keepDraft_8 : decode cX7_keepDraft 8 = .ok (.if_icmp .ne 8, 3) := by decide +kernel
theorem dX7_keepDraft_11 : decode cX7_keepDraft 11 = .ok (.aload_n 0, 1) := by decide +kernel
theorem dX7_keepDraft_12 : decode cX7_keepDraft 12 = .ok (.iconst 0, 1) := by decide +kernel
theorem dX7_keepDraft_13 : decode cX7_keepDraft 13 = .ok (.invokevirtual 29, 3) := by decide +kernel
theorem dX7_keepDraft_16 : decode cX7_keepDraft 16 = .ok (.aload_n 0, 1) := by decide +kernel
theorem dX7_keepDraft_17 : decode cX7_keepDraft 17 = .ok (.getfield 21, 3) := by decide +kernel
theorem dX7_keepDraft_20 : decode cX7_keepDraft 20 = .ok (.aload_n 0, 1) := by decide +kernel
theorem dX7_keepDraft_21 : decode cX7_keepDraft 21 = .ok (.getfield 26, 3) := by decide +kernel
theorem dX7_keepDraft_24 : decode cX7_keepDraft 24 = .ok (.aaload, 1) := by decide +kernel
theorem dX7_keepDraft_25 : decode cX7_keepDraft 25 = .ok (.iconst 1, 1) := by decide +kernel
theorem dX7_keepDraft_26 : decode cX7_keepDraft 26 = .ok (.putfield 33, 3) := by decide +kernel
theorem dX7_keepDraft_29 : decode cX7_keepDraft 29 = .ok (.aload_n 0, 1) := by decide +kernel
theorem dX7_keepDraft_30 : decode cX7_keepDraft 30 = .ok (.dup, 1) := by decide +kernel
theorem dX7_keepDraft_31 : decode cX7_keepDraft 31 = .ok (.getfield 26, 3) := by decide +kernel
theorem dX7_keepDraft_34 : decode cX7_keepDraft 34 = .ok (.iconst 1, 1) := by decide +kernel
theorem dX7_keepDraft_35 : decode cX7_keepDraft 35 = .ok (.iadd, 1) := by decide +kernel
theorem dX7_keepDraft_36 : decode cX7_keepDraft 36 = .ok (.putfield 26, 3) := by decide +kernel
theorem dX7_keepDraft_39 : decode cX7_keepDraft 39 = .ok (.aload_n 0, 1) := by decide +kernel
theorem dX7_keepDraft_40 : decode cX7_keepDraft 40 = .ok (.getfield 15, 3) := by decide +kernel
theorem dX7_keepDraft_43 : decode cX7_keepDraft 43 = .ok (.iconst 0, 1) := by decide +kernel
theorem dX7_keepDraft_44 : decode cX7_keepDraft 44 = .ok (.dup2, 1) := by decide +kernel
theorem dX7_keepDraft_45 : decode cX7_keepDraft 45 = .ok (.iaload, 1) := by decide +kernel
theorem dX7_keepDraft_46 : decode cX7_keepDraft 46 = .ok (.iconst 1, 1) := by decide +kernel
theorem dX7_keepDraft_47 : decode cX7_keepDraft 47 = .ok (.iadd, 1) := by decide +kernel
theorem dX7_keepDraft_48 : decode cX7_keepDraft 48 = .ok (.iastore, 1) := by decide +kernel
theorem dX7_keepDraft_49 : decode cX7_keepDraft 49 = .ok (.return_, 1) := by decide +kernel
theorem dX7_find_0 : decode cX7_find 0 = .ok (.iconst 0, 1) := by decide +kernel
theorem dX7_find_1 : decode cX7_find 1 = .ok (.istore_n 2, 1) := by decide +kernel
theorem dX7_find_2 : decode cX7_find 2 = .ok (.iload_n 2, 1) := by decide +kernel
theorem dX7_find_3 : decode cX7_find 3 = .ok (.aload_n 0, 1) := by decide +kernel
theorem dX7_find_4 : decode cX7_find 4 = .ok (.getfield 26, 3) := by decide +kernel
theorem dX7_find_7 : decode cX7_find 7 = .ok (.if_icmp .ge 29, 3) := by decide +kernel
theorem dX7_find_10 : decode cX7_find 10 = .ok (.aload_n 0, 1) := by decide +kernel
theorem dX7_find_11 : decode cX7_find 11 = .ok (.getfield 21, 3) := by decide +kernel
theorem dX7_find_14 : decode cX7_find 14 = .ok (.iload_n 2, 1) := by decide +kernel
theorem dX7_find_15 : decode cX7_find 15 = .ok (.aaload, 1) := by decide +kernel
theorem dX7_find_16 : decode cX7_find 16 = .ok (.getfield 37, 3) := by decide +kernel
theorem dX7_find_19 : decode cX7_find 19 = .ok (.iload_n 1, 1) := by decide +kernel
theorem dX7_find_20 : decode cX7_find 20 = .ok (.if_icmp .ne 10, 3) := by decide +kernel
theorem dX7_find_23 : decode cX7_find 23 = .ok (.aload_n 0, 1) := by decide +kernel
theorem dX7_find_24 : decode cX7_find 24 = .ok (.getfield 21, 3) := by decide +kernel
theorem dX7_find_27 : decode cX7_find 27 = .ok (.iload_n 2, 1) := by decide +kernel
theorem dX7_find_28 : decode cX7_find 28 = .ok (.aaload, 1) := by decide +kernel
theorem dX7_find_29 : decode cX7_find 29 = .ok (.areturn, 1) := by decide +kernel
theorem dX7_find_30 : decode cX7_find 30 = .ok (.iinc 2 1, 3) := by decide +kernel
theorem dX7_find_33 : decode cX7_find 33 = .ok (.goto (-31), 3) := by decide +kernel
theorem dX7_find_36 : decode cX7_find 36 = .ok (.aconst_null, 1) := by decide +kernel
theorem dX7_find_37 : decode cX7_find 37 = .ok (.areturn, 1) := by decide +kernel
theorem dX7_addressOf_0 : decode cX7_addressOf 0 = .ok (.iload_n 1, 1) := by decide +kernel
theorem dX7_addressOf_1 : decode cX7_addressOf 1 = .ok (.ifCond .lt 11, 3) := by decide +kernel
theorem dX7_addressOf_4 : decode cX7_addressOf 4 = .ok (.iload_n 1, 1) := by decide +kernel
theorem dX7_addressOf_5 : decode cX7_addressOf 5 = .ok (.aload_n 0, 1) := by decide +kernel
theorem dX7_addressOf_6 : decode cX7_addressOf 6 = .ok (.getfield 26, 3) := by decide +kernel
theorem dX7_addressOf_9 : decode cX7_addressOf 9 = .ok (.if_icmp .lt 7, 3) := by decide +kernel
theorem dX7_addressOf_12 : decode cX7_addressOf 12 = .ok (.iconst (-1), 1) := by decide +kernel
theorem dX7_addressOf_13 : decode cX7_addressOf 13 = .ok (.goto 12, 3) := by decide +kernel
theorem dX7_addressOf_16 : decode cX7_addressOf 16 = .ok (.aload_n 0, 1) := by decide +kernel
theorem dX7_addressOf_17 : decode cX7_addressOf 17 = .ok (.getfield 21, 3) := by decide +kernel
theorem dX7_addressOf_20 : decode cX7_addressOf 20 = .ok (.iload_n 1, 1) := by decide +kernel
theorem dX7_addressOf_21 : decode cX7_addressOf 21 = .ok (.aaload, 1) := by decide +kernel
theorem dX7_addressOf_22 : decode cX7_addressOf 22 = .ok (.getfield 37, 3) := by decide +kernel
theorem dX7_addressOf_25 : decode cX7_addressOf 25 = .ok (.ireturn, 1) := by decide +kernel
theorem dX7_dropPage_0 : decode cX7_dropPage 0 = .ok (.iconst 0, 1) := by decide +kernel
theorem dX7_dropPage_1 : decode cX7_dropPage 1 = .ok (.istore_n 2, 1) := by decide +kernel
theorem dX7_dropPage_2 : decode cX7_dropPage 2 = .ok (.aload_n 0, 1) := by decide +kernel
theorem dX7_dropPage_3 : decode cX7_dropPage 3 = .ok (.getfield 26, 3) := by decide +kernel
theorem dX7_dropPage_6 : decode cX7_dropPage 6 = .ok (.iconst 1, 1) := by decide +kernel
theorem dX7_dropPage_7 : decode cX7_dropPage 7 = .ok (.isub, 1) := by decide +kernel
theorem dX7_dropPage_8 : decode cX7_dropPage 8 = .ok (.istore_n 3, 1) := by decide +kernel
theorem dX7_dropPage_9 : decode cX7_dropPage 9 = .ok (.iload_n 3, 1) := by decide +kernel
theorem dX7_dropPage_10 : decode cX7_dropPage 10 = .ok (.ifCond .lt 30, 3) := by decide +kernel
theorem dX7_dropPage_13 : decode cX7_dropPage 13 = .ok (.aload_n 0, 1) := by decide +kernel
theorem dX7_dropPage_14 : decode cX7_dropPage 14 = .ok (.getfield 21, 3) := by decide +kernel
theorem dX7_dropPage_17 : decode cX7_dropPage 17 = .ok (.iload_n 3, 1) := by decide +kernel
theorem dX7_dropPage_18 : decode cX7_dropPage 18 = .ok (.aaload, 1) := by decide +kernel
theorem dX7_dropPage_19 : decode cX7_dropPage 19 = .ok (.iload_n 1, 1) := by decide +kernel
theorem dX7_dropPage_20 : decode cX7_dropPage 20 = .ok (.invokevirtual 40, 3) := by decide +kernel
theorem dX7_dropPage_23 : decode cX7_dropPage 23 = .ok (.ifCond .eq 11, 3) := by decide +kernel
theorem dX7_dropPage_26 : decode cX7_dropPage 26 = .ok (.aload_n 0, 1) := by decide +kernel
theorem dX7_dropPage_27 : decode cX7_dropPage 27 = .ok (.iload_n 3, 1) := by decide +kernel
theorem dX7_dropPage_28 : decode cX7_dropPage 28 = .ok (.invokevirtual 29, 3) := by decide +kernel
theorem dX7_dropPage_31 : decode cX7_dropPage 31 = .ok (.iinc 2 1, 3) := by decide +kernel
theorem dX7_dropPage_34 : decode cX7_dropPage 34 = .ok (.iinc 3 (-1), 3) := by decide +kernel
theorem dX7_dropPage_37 : decode cX7_dropPage 37 = .ok (.goto (-28), 3) := by decide +kernel
theorem dX7_dropPage_40 : decode cX7_dropPage 40 = .ok (.iload_n 2, 1) := by decide +kernel
theorem dX7_dropPage_41 : decode cX7_dropPage 41 = .ok (.ireturn, 1) := by decide +kernel
theorem dX7_dropAt_0 : decode cX7_dropAt 0 = .ok (.aload_n 0, 1) := by decide +kernel
theorem dX7_dropAt_1 : decode cX7_dropAt 1 = .ok (.getfield 21, 3) := by decide +kernel
theorem dX7_dropAt_4 : decode cX7_dropAt 4 = .ok (.iload_n 1, 1) := by decide +kernel
theorem dX7_dropAt_5 : decode cX7_dropAt 5 = .ok (.aaload, 1) := by decide +kernel
theorem dX7_dropAt_6 : decode cX7_dropAt 6 = .ok (.astore_n 2, 1) := by decide +kernel
theorem dX7_dropAt_7 : decode cX7_dropAt 7 = .ok (.iload_n 1, 1) := by decide +kernel
theorem dX7_dropAt_8 : decode cX7_dropAt 8 = .ok (.istore_n 3, 1) := by decide +kernel
theorem dX7_dropAt_9 : decode cX7_dropAt 9 = .ok (.iload_n 3, 1) := by decide +kernel
theorem dX7_dropAt_10 : decode cX7_dropAt 10 = .ok (.aload_n 0, 1) := by decide +kernel
theorem dX7_dropAt_11 : decode cX7_dropAt 11 = .ok (.getfield 9, 3) := by decide +kernel
theorem dX7_dropAt_14 : decode cX7_dropAt 14 = .ok (.if_icmp .ge 23, 3) := by decide +kernel
theorem dX7_dropAt_17 : decode cX7_dropAt 17 = .ok (.aload_n 0, 1) := by decide +kernel
theorem dX7_dropAt_18 : decode cX7_dropAt 18 = .ok (.getfield 21, 3) := by decide +kernel
theorem dX7_dropAt_21 : decode cX7_dropAt 21 = .ok (.iload_n 3, 1) := by decide +kernel
theorem dX7_dropAt_22 : decode cX7_dropAt 22 = .ok (.aload_n 0, 1) := by decide +kernel
theorem dX7_dropAt_23 : decode cX7_dropAt 23 = .ok (.getfield 21, 3) := by decide +kernel
theorem dX7_dropAt_26 : decode cX7_dropAt 26 = .ok (.iload_n 3, 1) := by decide +kernel
theorem dX7_dropAt_27 : decode cX7_dropAt 27 = .ok (.iconst 1, 1) := by decide +kernel
theorem dX7_dropAt_28 : decode cX7_dropAt 28 = .ok (.iadd, 1) := by decide +kernel
theorem dX7_dropAt_29 : decode cX7_dropAt 29 = .ok (.aaload, 1) := by decide +kernel
theorem dX7_dropAt_30 : decode cX7_dropAt 30 = .ok (.aastore, 1) := by decide +kernel
theorem dX7_dropAt_31 : decode cX7_dropAt 31 = .ok (.iinc 3 1, 3) := by decide +kernel
theorem dX7_dropAt_34 : decode cX7_dropAt 34 = .ok (.goto (-25), 3) := by decide +kernel
theorem dX7_dropAt_37 : decode cX7_dropAt 37 = .ok (.aload_n 0, 1) := by decide +kernel
theorem dX7_dropAt_38 : decode cX7_dropAt 38 = .ok (.getfield 21, 3) := by decide +kernel
theorem dX7_dropAt_41 : decode cX7_dropAt 41 = .ok (.aload_n 0, 1) := by decide +kernel
theorem dX7_dropAt_42 : decode cX7_dropAt 42 = .ok (.getfield 9, 3) := by decide +kernel
theorem dX7_dropAt_45 : decode cX7_dropAt 45 = .ok (.aload_n 2, 1) := by decide +kernel
theorem dX7_dropAt_46 : decode cX7_dropAt 46 = .ok (.aastore, 1) := by decide +kernel
theorem dX7_dropAt_47 : decode cX7_dropAt 47 = .ok (.aload_n 2, 1) := by decide +kernel
theorem dX7_dropAt_48 : decode cX7_dropAt 48 = .ok (.iconst 0, 1) := by decide +kernel
theorem dX7_dropAt_49 : decode cX7_dropAt 49 = .ok (.putfield 33, 3) := by decide +kernel
theorem dX7_dropAt_52 : decode cX7_dropAt 52 = .ok (.aload_n 0, 1) := by decide +kernel
theorem dX7_dropAt_53 : decode cX7_dropAt 53 = .ok (.dup, 1) := by decide +kernel
theorem dX7_dropAt_54 : decode cX7_dropAt 54 = .ok (.getfield 26, 3) := by decide +kernel
theorem dX7_dropAt_57 : decode cX7_dropAt 57 = .ok (.iconst 1, 1) := by decide +kernel
theorem dX7_dropAt_58 : decode cX7_dropAt 58 = .ok (.isub, 1) := by decide +kernel
theorem dX7_dropAt_59 : decode cX7_dropAt 59 = .ok (.putfield 26, 3) := by decide +kernel
theorem dX7_dropAt_62 : decode cX7_dropAt 62 = .ok (.aload_n 0, 1) := by decide +kernel
theorem dX7_dropAt_63 : decode cX7_dropAt 63 = .ok (.getfield 15, 3) := by decide +kernel
theorem dX7_dropAt_66 : decode cX7_dropAt 66 = .ok (.iconst 1, 1) := by decide +kernel
theorem dX7_dropAt_67 : decode cX7_dropAt 67 = .ok (.dup2, 1) := by decide +kernel
theorem dX7_dropAt_68 : decode cX7_dropAt 68 = .ok (.iaload, 1) := by decide +kernel
theorem dX7_dropAt_69 : decode cX7_dropAt 69 = .ok (.iconst 1, 1) := by decide +kernel
theorem dX7_dropAt_70 : decode cX7_dropAt 70 = .ok (.iadd, 1) := by decide +kernel
theorem dX7_dropAt_71 : decode cX7_dropAt 71 = .ok (.iastore, 1) := by decide +kernel
theorem dX7_dropAt_72 : decode cX7_dropAt 72 = .ok (.return_, 1) := by decide +kernel
theorem dX8_init_0 : decode cX8_init 0 = .ok (.aload_n 0, 1) := by decide +kernel
theorem dX8_init_1 : decode cX8_init 1 = .ok (.invokespecial 1, 3) := by decide +kernel
theorem dX8_init_4 : decode cX8_init 4 = .ok (.aload_n 0, 1) := by decide +kernel
theorem dX8_init_5 : decode cX8_init 5 = .ok (.bipush 8, 2) := by decide +kernel
theorem dX8_init_7 : decode cX8_init 7 = .ok (.newarray .int, 2) := by decide +kernel
theorem dX8_init_9 : decode cX8_init 9 = .ok (.putfield 9, 3) := by decide +kernel
theorem dX8_init_12 : decode cX8_init 12 = .ok (.aload_n 0, 1) := by decide +kernel
theorem dX8_init_13 : decode cX8_init 13 = .ok (.bipush 8, 2) := by decide +kernel
theorem dX8_init_15 : decode cX8_init 15 = .ok (.newarray .int, 2) := by decide +kernel
theorem dX8_init_17 : decode cX8_init 17 = .ok (.putfield 13, 3) := by decide +kernel
theorem dX8_init_20 : decode cX8_init 20 = .ok (.aload_n 0, 1) := by decide +kernel
theorem dX8_init_21 : decode cX8_init 21 = .ok (.iconst 4, 1) := by decide +kernel
theorem dX8_init_22 : decode cX8_init 22 = .ok (.newarray .int, 2) := by decide +kernel
theorem dX8_init_24 : decode cX8_init 24 = .ok (.putfield 16, 3) := by decide +kernel
theorem dX8_init_27 : decode cX8_init 27 = .ok (.aload_n 0, 1) := by decide +kernel
theorem dX8_init_28 : decode cX8_init 28 = .ok (.new 19, 3) := by decide +kernel
theorem dX8_init_31 : decode cX8_init 31 = .ok (.dup, 1) := by decide +kernel
theorem dX8_init_32 : decode cX8_init 32 = .ok (.iconst 0, 1) := by decide +kernel
theorem dX8_init_33 : decode cX8_init 33 = .ok (.bipush 20, 2) := by decide +kernel
theorem dX8_init_35 : decode cX8_init 35 = .ok (.iload_n 1, 1) := by decide +kernel
theorem dX8_init_36 : decode cX8_init 36 = .ok (.invokestatic 21, 3) := by decide +kernel
theorem dX8_init_39 : decode cX8_init 39 = .ok (.invokestatic 27, 3) := by decide +kernel
theorem dX8_init_42 : decode cX8_init 42 = .ok (.aload_n 0, 1) := by decide +kernel
theorem dX8_init_43 : decode cX8_init 43 = .ok (.getfield 9, 3) := by decide +kernel
theorem dX8_init_46 : decode cX8_init 46 = .ok (.invokespecial 30, 3) := by decide +kernel
theorem dX8_init_49 : decode cX8_init 49 = .ok (.putfield 33, 3) := by decide +kernel
theorem dX8_init_52 : decode cX8_init 52 = .ok (.aload_n 0, 1) := by decide +kernel
theorem dX8_init_53 : decode cX8_init 53 = .ok (.new 37, 3) := by decide +kernel
theorem dX8_init_56 : decode cX8_init 56 = .ok (.dup, 1) := by decide +kernel
theorem dX8_init_57 : decode cX8_init 57 = .ok (.aload_n 0, 1) := by decide +kernel
theorem dX8_init_58 : decode cX8_init 58 = .ok (.getfield 33, 3) := by decide +kernel
theorem dX8_init_61 : decode cX8_init 61 = .ok (.invokespecial 39, 3) := by decide +kernel
theorem dX8_init_64 : decode cX8_init 64 = .ok (.putfield 42, 3) := by decide +kernel
theorem dX8_init_67 : decode cX8_init 67 = .ok (.aload_n 0, 1) := by decide +kernel
theorem dX8_init_68 : decode cX8_init 68 = .ok (.new 46, 3) := by decide +kernel
theorem dX8_init_71 : decode cX8_init 71 = .ok (.dup, 1) := by decide +kernel
theorem dX8_init_72 : decode cX8_init 72 = .ok (.aload_n 0, 1) := by decide +kernel
theorem dX8_init_73 : decode cX8_init 73 = .ok (.getfield 42, 3) := by decide +kernel
theorem dX8_init_76 : decode cX8_init 76 = .ok (.aload_n 0, 1) := by decide +kernel
theorem dX8_init_77 : decode cX8_init 77 = .ok (.getfield 33, 3) := by decide +kernel
theorem dX8_init_80 : decode cX8_init 80 = .ok (.aload_n 0, 1) := by decide +kernel
theorem dX8_init_81 : decode cX8_init 81 = .ok (.getfield 13, 3) := by decide +kernel
theorem dX8_init_84 : decode cX8_init 84 = .ok (.aload_n 0, 1) := by decide +kernel
theorem dX8_init_85 : decode cX8_init 85 = .ok (.getfield 9, 3) := by decide +kernel
theorem dX8_init_88 : decode cX8_init 88 = .ok (.invokespecial 48, 3) := by decide +kernel
theorem dX8_init_91 : decode cX8_init 91 = .ok (.putfield 51, 3) := by decide +kernel
theorem dX8_init_94 : decode cX8_init 94 = .ok (.aload_n 0, 1) := by decide +kernel
theorem dX8_init_95 : decode cX8_init 95 = .ok (.iconst (-1), 1) := by decide +kernel
theorem dX8_init_96 : decode cX8_init 96 = .ok (.putfield 55, 3) := by decide +kernel
theorem dX8_init_99 : decode cX8_init 99 = .ok (.return_, 1) := by decide +kernel
theorem dX8_poke_0 : decode cX8_poke 0 = .ok (.iload_n 1, 1) := by decide +kernel
theorem dX8_poke_1 : decode cX8_poke 1 = .ok (.invokestatic 59, 3) := by decide +kernel
theorem dX8_poke_4 : decode cX8_poke 4 = .ok (.ifCond .ne 13, 3) := by decide +kernel
theorem dX8_poke_7 : decode cX8_poke 7 = .ok (.new 63, 3) := by decide +kernel
theorem dX8_poke_10 : decode cX8_poke 10 = .ok (.dup, 1) := by decide +kernel
theorem dX8_poke_11 : decode cX8_poke 11 = .ok (.ldc 65, 2) := by decide +kernel
theorem dX8_poke_13 : decode cX8_poke 13 = .ok (.invokespecial 67, 3) := by decide +kernel
theorem dX8_poke_16 : decode cX8_poke 16 = .ok (.athrow, 1) := by decide +kernel
theorem dX8_poke_17 : decode cX8_poke 17 = .ok (.aload_n 0, 1) := by decide +kernel
theorem dX8_poke_18 : decode cX8_poke 18 = .ok (.getfield 42, 3) := by decide +kernel
theorem dX8_poke_21 : decode cX8_poke 21 = .ok (.getfield 70, 3) := by decide +kernel
theorem dX8_poke_24 : decode cX8_poke 24 = .ok (.iload_n 1, 1) := by decide +kernel
theorem dX8_poke_25 : decode cX8_poke 25 = .ok (.iaload, 1) := by decide +kernel
theorem dX8_poke_26 : decode cX8_poke 26 = .ok (.istore_n 3, 1) := by decide +kernel
theorem dX8_poke_27 : decode cX8_poke 27 = .ok (.aload_n 0, 1) := by decide +kernel
theorem dX8_poke_28 : decode cX8_poke 28 = .ok (.getfield 42, 3) := by decide +kernel
theorem dX8_poke_31 : decode cX8_poke 31 = .ok (.iload_n 1, 1) := by decide +kernel
theorem dX8_poke_32 : decode cX8_poke 32 = .ok (.iload_n 2, 1) := by decide +kernel
theorem dX8_poke_33 : decode cX8_poke 33 = .ok (.invokevirtual 73, 3) := by decide +kernel
theorem dX8_poke_36 : decode cX8_poke 36 = .ok (.pop, 1) := by decide +kernel
theorem dX8_poke_37 : decode cX8_poke 37 = .ok (.iload_n 3, 1) := by decide +kernel
theorem dX8_poke_38 : decode cX8_poke 38 = .ok (.ireturn, 1) := by decide +kernel
theorem dX8_feed_0 : decode cX8_feed 0 = .ok (.iload_n 2, 1) := by decide +kernel
theorem dX8_feed_1 : decode cX8_feed 1 = .ok (.iconst 1, 1) := by decide +kernel
theorem dX8_feed_2 : decode cX8_feed 2 = .ok (.if_icmp .lt 22, 3) := by decide +kernel
theorem dX8_feed_5 : decode cX8_feed 5 = .ok (.iload_n 2, 1) := by decide +kernel
theorem dX8_feed_6 : decode cX8_feed 6 = .ok (.bipush 8, 2) := by decide +kernel
theorem dX8_feed_8 : decode cX8_feed 8 = .ok (.if_icmp .gt 16, 3) := by decide +kernel
theorem dX8_feed_11 : decode cX8_feed 11 = .ok (.iload_n 1, 1) := by decide +kernel
theorem dX8_feed_12 : decode cX8_feed 12 = .ok (.ifCond .lt 12, 3) := by decide +kernel
theorem dX8_feed_15 : decode cX8_feed 15 = .ok (.iload_n 1, 1) := by decide +kernel
theorem dX8_feed_16 : decode cX8_feed 16 = .ok (.sipush 1024, 3) := by decide +kernel
theorem dX8_feed_19 : decode cX8_feed 19 = .ok (.iload_n 2, 1) := by decide +kernel
theorem dX8_feed_20 : decode cX8_feed 20 = .ok (.isub, 1) := by decide +kernel
theorem dX8_feed_21 : decode cX8_feed 21 = .ok (.if_icmp .le 6, 3) := by decide +kernel
theorem dX8_feed_24 : decode cX8_feed 24 = .ok (.bipush (-2), 2) := by decide +kernel
theorem dX8_feed_26 : decode cX8_feed 26 = .ok (.ireturn, 1) := by decide +kernel
theorem dX8_feed_27 : decode cX8_feed 27 = .ok (.iconst 0, 1) := by decide +kernel
theorem dX8_feed_28 : decode cX8_feed 28 = .ok (.istore 5, 2) := by decide +kernel
theorem dX8_feed_30 : decode cX8_feed 30 = .ok (.iconst 0, 1) := by decide +kernel
theorem dX8_feed_31 : decode cX8_feed 31 = .ok (.istore 6, 2) := by decide +kernel
theorem dX8_feed_33 : decode cX8_feed 33 = .ok (.iload 6, 2) := by decide +kernel
theorem dX8_feed_35 : decode cX8_feed 35 = .ok (.iload_n 2, 1) := by decide +kernel
theorem dX8_feed_36 : decode cX8_feed 36 = .ok (.if_icmp .ge 37, 3) := by decide +kernel
theorem dX8_feed_39 : decode cX8_feed 39 = .ok (.iload 5, 2) := by decide +kernel
theorem dX8_feed_41 : decode cX8_feed 41 = .ok (.aload_n 0, 1) := by decide +kernel
theorem dX8_feed_42 : decode cX8_feed 42 = .ok (.getfield 42, 3) := by decide +kernel
theorem dX8_feed_45 : decode cX8_feed 45 = .ok (.iload_n 1, 1) := by decide +kernel
theorem dX8_feed_46 : decode cX8_feed 46 = .ok (.iload 6, 2) := by decide +kernel
theorem dX8_feed_48 : decode cX8_feed 48 = .ok (.iadd, 1) := by decide +kernel
theorem dX8_feed_49 : decode cX8_feed 49 = .ok (.lload_n 3, 1) := by decide +kernel
theorem dX8_feed_50 : decode cX8_feed 50 = .ok (.bipush 8, 2) := by decide +kernel
theorem dX8_feed_52 : decode cX8_feed 52 = .ok (.iload_n 2, 1) := by decide +kernel
theorem dX8_feed_53 : decode cX8_feed 53 = .ok (.iconst 1, 1) := by decide +kernel
theorem dX8_feed_54 : decode cX8_feed 54 = .ok (.isub, 1) := by decide +kernel
theorem dX8_feed_55 : decode cX8_feed 55 = .ok (.iload 6, 2) := by decide +kernel
theorem dX8_feed_57 : decode cX8_feed 57 = .ok (.isub, 1) := by decide +kernel
theorem dX8_feed_58 : decode cX8_feed 58 = .ok (.imul, 1) := by decide +kernel
theorem dX8_feed_59 : decode cX8_feed 59 = .ok (.lushr, 1) := by decide +kernel
theorem dX8_feed_60 : decode cX8_feed 60 = .ok (.l2i, 1) := by decide +kernel
theorem dX8_feed_61 : decode cX8_feed 61 = .ok (.invokevirtual 73, 3) := by decide +kernel
theorem dX8_feed_64 : decode cX8_feed 64 = .ok (.iadd, 1) := by decide +kernel
theorem dX8_feed_65 : decode cX8_feed 65 = .ok (.istore 5, 2) := by decide +kernel
theorem dX8_feed_67 : decode cX8_feed 67 = .ok (.iinc 6 1, 3) := by decide +kernel
theorem dX8_feed_70 : decode cX8_feed 70 = .ok (.goto (-37), 3) := by decide +kernel
theorem dX8_feed_73 : decode cX8_feed 73 = .ok (.iload 5, 2) := by decide +kernel
theorem dX8_feed_75 : decode cX8_feed 75 = .ok (.ireturn, 1) := by decide +kernel
theorem dX8_peek_0 : decode cX8_peek 0 = .ok (.iload_n 1, 1) := by decide +kernel
theorem dX8_peek_1 : decode cX8_peek 1 = .ok (.invokestatic 59, 3) := by decide +kernel
theorem dX8_peek_4 : decode cX8_peek 4 = .ok (.ifCond .ne 13, 3) := by decide +kernel
theorem dX8_peek_7 : decode cX8_peek 7 = .ok (.new 63, 3) := by decide +kernel
theorem dX8_peek_10 : decode cX8_peek 10 = .ok (.dup, 1) := by decide +kernel
theorem dX8_peek_11 : decode cX8_peek 11 = .ok (.ldc 65, 2) := by decide +kernel
theorem dX8_peek_13 : decode cX8_peek 13 = .ok (.invokespecial 67, 3) := by decide +kernel
theorem dX8_peek_16 : decode cX8_peek 16 = .ok (.athrow, 1) := by decide +kernel
theorem dX8_peek_17 : decode cX8_peek 17 = .ok (.aload_n 0, 1) := by decide +kernel
theorem dX8_peek_18 : decode cX8_peek 18 = .ok (.getfield 42, 3) := by decide +kernel
theorem dX8_peek_21 : decode cX8_peek 21 = .ok (.getfield 70, 3) := by decide +kernel
theorem dX8_peek_24 : decode cX8_peek 24 = .ok (.iload_n 1, 1) := by decide +kernel
theorem dX8_peek_25 : decode cX8_peek 25 = .ok (.iaload, 1) := by decide +kernel
theorem dX8_peek_26 : decode cX8_peek 26 = .ok (.ireturn, 1) := by decide +kernel
theorem dX8_global_0 : decode cX8_global 0 = .ok (.iload_n 1, 1) := by decide +kernel
theorem dX8_global_1 : decode cX8_global 1 = .ok (.ifCond .lt 9, 3) := by decide +kernel
theorem dX8_global_4 : decode cX8_global 4 = .ok (.iload_n 1, 1) := by decide +kernel
theorem dX8_global_5 : decode cX8_global 5 = .ok (.bipush 8, 2) := by decide +kernel
theorem dX8_global_7 : decode cX8_global 7 = .ok (.if_icmp .lt 13, 3) := by decide +kernel
theorem dX8_global_10 : decode cX8_global 10 = .ok (.new 63, 3) := by decide +kernel
theorem dX8_global_13 : decode cX8_global 13 = .ok (.dup, 1) := by decide +kernel
theorem dX8_global_14 : decode cX8_global 14 = .ok (.ldc 76, 2) := by decide +kernel
theorem dX8_global_16 : decode cX8_global 16 = .ok (.invokespecial 67, 3) := by decide +kernel
theorem dX8_global_19 : decode cX8_global 19 = .ok (.athrow, 1) := by decide +kernel
theorem dX8_global_20 : decode cX8_global 20 = .ok (.aload_n 0, 1) := by decide +kernel
theorem dX8_global_21 : decode cX8_global 21 = .ok (.getfield 13, 3) := by decide +kernel
theorem dX8_global_24 : decode cX8_global 24 = .ok (.iload_n 1, 1) := by decide +kernel
theorem dX8_global_25 : decode cX8_global 25 = .ok (.iaload, 1) := by decide +kernel
theorem dX8_global_26 : decode cX8_global 26 = .ok (.istore_n 3, 1) := by decide +kernel
theorem dX8_global_27 : decode cX8_global 27 = .ok (.aload_n 0, 1) := by decide +kernel
theorem dX8_global_28 : decode cX8_global 28 = .ok (.getfield 13, 3) := by decide +kernel
theorem dX8_global_31 : decode cX8_global 31 = .ok (.iload_n 1, 1) := by decide +kernel
theorem dX8_global_32 : decode cX8_global 32 = .ok (.iload_n 2, 1) := by decide +kernel
theorem dX8_global_33 : decode cX8_global 33 = .ok (.iastore, 1) := by decide +kernel
theorem dX8_global_34 : decode cX8_global 34 = .ok (.iload_n 3, 1) := by decide +kernel
theorem dX8_global_35 : decode cX8_global 35 = .ok (.ireturn, 1) := by decide +kernel
theorem dX8_make_0 : decode cX8_make 0 = .ok (.aload_n 0, 1) := by decide +kernel
theorem dX8_make_1 : decode cX8_make 1 = .ok (.iconst (-1), 1) := by decide +kernel
theorem dX8_make_2 : decode cX8_make 2 = .ok (.putfield 55, 3) := by decide +kernel
theorem dX8_make_5 : decode cX8_make 5 = .ok (.iload_n 1, 1) := by decide +kernel
theorem dX8_make_6 : decode cX8_make 6 = .ok (.invokestatic 78, 3) := by decide +kernel
theorem dX8_make_9 : decode cX8_make 9 = .ok (.ifCond .eq 14, 3) := by decide +kernel
theorem dX8_make_12 : decode cX8_make 12 = .ok (.aload_n 0, 1) := by decide +kernel
theorem dX8_make_13 : decode cX8_make 13 = .ok (.getfield 42, 3) := by decide +kernel
theorem dX8_make_16 : decode cX8_make 16 = .ok (.iload_n 1, 1) := by decide +kernel
theorem dX8_make_17 : decode cX8_make 17 = .ok (.invokevirtual 81, 3) := by decide +kernel
theorem dX8_make_20 : decode cX8_make 20 = .ok (.ifCond .ne 6, 3) := by decide +kernel
theorem dX8_make_23 : decode cX8_make 23 = .ok (.bipush (-2), 2) := by decide +kernel
theorem dX8_make_25 : decode cX8_make 25 = .ok (.ireturn, 1) := by decide +kernel
theorem dX8_make_26 : decode cX8_make 26 = .ok (.aload_n 0, 1) := by decide +kernel
theorem dX8_make_27 : decode cX8_make 27 = .ok (.getfield 33, 3) := by decide +kernel
theorem dX8_make_30 : decode cX8_make 30 = .ok (.invokevirtual 84, 3) := by decide +kernel
theorem dX8_make_33 : decode cX8_make 33 = .ok (.astore_n 2, 1) := by decide +kernel
theorem dX8_make_34 : decode cX8_make 34 = .ok (.aload_n 0, 1) := by decide +kernel
theorem dX8_make_35 : decode cX8_make 35 = .ok (.aload_n 2, 1) := by decide +kernel
theorem dX8_make_36 : decode cX8_make 36 = .ok (.aload_n 0, 1) := by decide +kernel
theorem dX8_make_37 : decode cX8_make 37 = .ok (.getfield 42, 3) := by decide +kernel
theorem dX8_make_40 : decode cX8_make 40 = .ok (.iload_n 1, 1) := by decide +kernel
theorem dX8_make_41 : decode cX8_make 41 = .ok (.invokevirtual 88, 3) := by decide +kernel
theorem dX8_make_44 : decode cX8_make 44 = .ok (.putfield 55, 3) := by decide +kernel
theorem dX8_make_47 : decode cX8_make 47 = .ok (.aload_n 0, 1) := by decide +kernel
theorem dX8_make_48 : decode cX8_make 48 = .ok (.getfield 55, 3) := by decide +kernel
theorem dX8_make_51 : decode cX8_make 51 = .ok (.iconst (-1), 1) := by decide +kernel
theorem dX8_make_52 : decode cX8_make 52 = .ok (.if_icmp .eq 6, 3) := by decide +kernel
theorem dX8_make_55 : decode cX8_make 55 = .ok (.bipush (-2), 2) := by decide +kernel
theorem dX8_make_57 : decode cX8_make 57 = .ok (.ireturn, 1) := by decide +kernel
theorem dX8_make_58 : decode cX8_make 58 = .ok (.aload_n 0, 1) := by decide +kernel
theorem dX8_make_59 : decode cX8_make 59 = .ok (.getfield 33, 3) := by decide +kernel
theorem dX8_make_62 : decode cX8_make 62 = .ok (.iload_n 1, 1) := by decide +kernel
theorem dX8_make_63 : decode cX8_make 63 = .ok (.invokevirtual 94, 3) := by decide +kernel
theorem dX8_make_66 : decode cX8_make 66 = .ok (.ifnull 6, 3) := by decide +kernel
theorem dX8_make_69 : decode cX8_make 69 = .ok (.bipush (-4), 2) := by decide +kernel
theorem dX8_make_71 : decode cX8_make 71 = .ok (.ireturn, 1) := by decide +kernel
theorem dX8_make_72 : decode cX8_make 72 = .ok (.aload_n 0, 1) := by decide +kernel
theorem dX8_make_73 : decode cX8_make 73 = .ok (.getfield 33, 3) := by decide +kernel
theorem dX8_make_76 : decode cX8_make 76 = .ok (.getfield 98, 3) := by decide +kernel
theorem dX8_make_79 : decode cX8_make 79 = .ok (.ifCond .ne 6, 3) := by decide +kernel
theorem dX8_make_82 : decode cX8_make 82 = .ok (.bipush (-3), 2) := by decide +kernel
theorem dX8_make_84 : decode cX8_make 84 = .ok (.ireturn, 1) := by decide +kernel
theorem dX8_make_85 : decode cX8_make 85 = .ok (.aload_n 0, 1) := by decide +kernel
theorem dX8_make_86 : decode cX8_make 86 = .ok (.getfield 33, 3) := by decide +kernel
theorem dX8_make_89 : decode cX8_make 89 = .ok (.invokevirtual 101, 3) := by decide +kernel
theorem dX8_make_92 : decode cX8_make 92 = .ok (.aload_n 2, 1) := by decide +kernel
theorem dX8_make_93 : decode cX8_make 93 = .ok (.getfield 104, 3) := by decide +kernel
theorem dX8_make_96 : decode cX8_make 96 = .ok (.ireturn, 1) := by decide +kernel
theorem dX8_place_0 : decode cX8_place 0 = .ok (.aload_n 0, 1) := by decide +kernel
theorem dX8_place_1 : decode cX8_place 1 = .ok (.getfield 55, 3) := by decide +kernel
theorem dX8_place_4 : decode cX8_place 4 = .ok (.ireturn, 1) := by decide +kernel
theorem dX8_argument_0 : decode cX8_argument 0 = .ok (.iload_n 1, 1) := by decide +kernel
theorem dX8_argument_1 : decode cX8_argument 1 = .ok (.ifCond .lt 8, 3) := by decide +kernel
theorem dX8_argument_4 : decode cX8_argument 4 = .ok (.iload_n 1, 1) := by decide +kernel
theorem dX8_argument_5 : decode cX8_argument 5 = .ok (.iconst 4, 1) := by decide +kernel
theorem dX8_argument_6 : decode cX8_argument 6 = .ok (.if_icmp .lt 6, 3) := by decide +kernel
theorem dX8_argument_9 : decode cX8_argument 9 = .ok (.bipush (-2), 2) := by decide +kernel
theorem dX8_argument_11 : decode cX8_argument 11 = .ok (.ireturn, 1) := by decide +kernel
theorem dX8_argument_12 : decode cX8_argument 12 = .ok (.aload_n 0, 1) := by decide +kernel
theorem dX8_argument_13 : decode cX8_argument 13 = .ok (.getfield 16, 3) := by decide +kernel
theorem dX8_argument_16 : decode cX8_argument 16 = .ok (.iload_n 1, 1) := by decide +kernel
theorem dX8_argument_17 : decode cX8_argument 17 = .ok (.iload_n 2, 1) := by decide +kernel
theorem dX8_argument_18 : decode cX8_argument 18 = .ok (.iastore, 1) := by decide +kernel
theorem dX8_argument_19 : decode cX8_argument 19 = .ok (.iconst 1, 1) := by decide +kernel
theorem dX8_argument_20 : decode cX8_argument 20 = .ok (.ireturn, 1) := by decide +kernel
theorem dX8_call_0 : decode cX8_call 0 = .ok (.aload_n 0, 1) := by decide +kernel
theorem dX8_call_1 : decode cX8_call 1 = .ok (.iload_n 1, 1) := by decide +kernel
theorem dX8_call_2 : decode cX8_call 2 = .ok (.iload_n 2, 1) := by decide +kernel
theorem dX8_call_3 : decode cX8_call 3 = .ok (.invokevirtual 107, 3) := by decide +kernel
theorem dX8_call_6 : decode cX8_call 6 = .ok (.istore_n 3, 1) := by decide +kernel
theorem dX8_call_7 : decode cX8_call 7 = .ok (.iload_n 3, 1) := by decide +kernel
theorem dX8_call_8 : decode cX8_call 8 = .ok (.ifCond .eq 7, 3) := by decide +kernel
theorem dX8_call_11 : decode cX8_call 11 = .ok (.iload_n 3, 1) := by decide +kernel
theorem dX8_call_12 : decode cX8_call 12 = .ok (.goto 17, 3) := by decide +kernel
theorem dX8_call_15 : decode cX8_call 15 = .ok (.aload_n 0, 1) := by decide +kernel
theorem dX8_call_16 : decode cX8_call 16 = .ok (.getfield 51, 3) := by decide +kernel
theorem dX8_call_19 : decode cX8_call 19 = .ok (.iload_n 1, 1) := by decide +kernel
theorem dX8_call_20 : decode cX8_call 20 = .ok (.aload_n 0, 1) := by decide +kernel
theorem dX8_call_21 : decode cX8_call 21 = .ok (.getfield 16, 3) := by decide +kernel
theorem dX8_call_24 : decode cX8_call 24 = .ok (.iload_n 2, 1) := by decide +kernel
theorem dX8_call_25 : decode cX8_call 25 = .ok (.iconst 1, 1) := by decide +kernel
theorem dX8_call_26 : decode cX8_call 26 = .ok (.invokevirtual 110, 3) := by decide +kernel
theorem dX8_call_29 : decode cX8_call 29 = .ok (.ireturn, 1) := by decide +kernel
theorem dX8_walk_0 : decode cX8_walk 0 = .ok (.aload_n 0, 1) := by decide +kernel
theorem dX8_walk_1 : decode cX8_walk 1 = .ok (.iload_n 1, 1) := by decide +kernel
theorem dX8_walk_2 : decode cX8_walk 2 = .ok (.iload_n 2, 1) := by decide +kernel
theorem dX8_walk_3 : decode cX8_walk 3 = .ok (.invokevirtual 107, 3) := by decide +kernel
theorem dX8_walk_6 : decode cX8_walk 6 = .ok (.istore_n 3, 1) := by decide +kernel
theorem dX8_walk_7 : decode cX8_walk 7 = .ok (.iload_n 3, 1) := by decide +kernel
theorem dX8_walk_8 : decode cX8_walk 8 = .ok (.ifCond .eq 7, 3) := by decide +kernel
theorem dX8_walk_11 : decode cX8_walk 11 = .ok (.iload_n 3, 1) := by decide +kernel
theorem dX8_walk_12 : decode cX8_walk 12 = .ok (.goto 17, 3) := by decide +kernel
theorem dX8_walk_15 : decode cX8_walk 15 = .ok (.aload_n 0, 1) := by decide +kernel
theorem dX8_walk_16 : decode cX8_walk 16 = .ok (.getfield 51, 3) := by decide +kernel
theorem dX8_walk_19 : decode cX8_walk 19 = .ok (.iload_n 1, 1) := by decide +kernel
theorem dX8_walk_20 : decode cX8_walk 20 = .ok (.aload_n 0, 1) := by decide +kernel
theorem dX8_walk_21 : decode cX8_walk 21 = .ok (.getfield 16, 3) := by decide +kernel
theorem dX8_walk_24 : decode cX8_walk 24 = .ok (.iload_n 2, 1) := by decide +kernel
theorem dX8_walk_25 : decode cX8_walk 25 = .ok (.iconst 0, 1) := by decide +kernel
theorem dX8_walk_26 : decode cX8_walk 26 = .ok (.invokevirtual 110, 3) := by decide +kernel
theorem dX8_walk_29 : decode cX8_walk 29 = .ok (.ireturn, 1) := by decide +kernel
theorem dX8_result_0 : decode cX8_result 0 = .ok (.aload_n 0, 1) := by decide +kernel
theorem dX8_result_1 : decode cX8_result 1 = .ok (.getfield 51, 3) := by decide +kernel
theorem dX8_result_4 : decode cX8_result 4 = .ok (.getfield 114, 3) := by decide +kernel
theorem dX8_result_7 : decode cX8_result 7 = .ok (.getfield 118, 3) := by decide +kernel
theorem dX8_result_10 : decode cX8_result 10 = .ok (.ireturn, 1) := by decide +kernel
theorem dX8_fault_0 : decode cX8_fault 0 = .ok (.aload_n 0, 1) := by decide +kernel
theorem dX8_fault_1 : decode cX8_fault 1 = .ok (.getfield 51, 3) := by decide +kernel
theorem dX8_fault_4 : decode cX8_fault 4 = .ok (.getfield 114, 3) := by decide +kernel
theorem dX8_fault_7 : decode cX8_fault 7 = .ok (.astore_n 2, 1) := by decide +kernel
theorem dX8_fault_8 : decode cX8_fault 8 = .ok (.iload_n 1, 1) := by decide +kernel
theorem dX8_fault_9 : decode cX8_fault 9 = .ok (.tableswitch 42 0 2 #[27, 32, 37], 27) := by decide +kernel
theorem dX8_fault_36 : decode cX8_fault 36 = .ok (.aload_n 2, 1) := by decide +kernel
theorem dX8_fault_37 : decode cX8_fault 37 = .ok (.getfield 123, 3) := by decide +kernel
theorem dX8_fault_40 : decode cX8_fault 40 = .ok (.ireturn, 1) := by decide +kernel
theorem dX8_fault_41 : decode cX8_fault 41 = .ok (.aload_n 2, 1) := by decide +kernel
theorem dX8_fault_42 : decode cX8_fault 42 = .ok (.getfield 126, 3) := by decide +kernel
theorem dX8_fault_45 : decode cX8_fault 45 = .ok (.ireturn, 1) := by decide +kernel
theorem dX8_fault_46 : decode cX8_fault 46 = .ok (.aload_n 2, 1) := by decide +kernel
theorem dX8_fault_47 : decode cX8_fault 47 = .ok (.getfield 129, 3) := by decide +kernel
theorem dX8_fault_50 : decode cX8_fault 50 = .ok (.ireturn, 1) := by decide +kernel
theorem dX8_fault_51 : decode cX8_fault 51 = .ok (.bipush (-2), 2) := by decide +kernel
theorem dX8_fault_53 : decode cX8_fault 53 = .ok (.ireturn, 1) := by decide +kernel
theorem dX8_accelerate_0 : decode cX8_accelerate 0 = .ok (.iload_n 1, 1) := by decide +kernel
theorem dX8_accelerate_1 : decode cX8_accelerate 1 = .ok (.invokestatic 78, 3) := by decide +kernel
theorem dX8_accelerate_4 : decode cX8_accelerate 4 = .ok (.ifCond .eq 12, 3) := by decide +kernel
theorem dX8_accelerate_7 : decode cX8_accelerate 7 = .ok (.iload_n 2, 1) := by decide +kernel
theorem dX8_accelerate_8 : decode cX8_accelerate 8 = .ok (.ifCond .lt 8, 3) := by decide +kernel
theorem dX8_accelerate_11 : decode cX8_accelerate 11 = .ok (.iload_n 2, 1) := by decide +kernel
theorem dX8_accelerate_12 : decode cX8_accelerate 12 = .ok (.iconst 4, 1) := by decide +kernel
theorem dX8_accelerate_13 : decode cX8_accelerate 13 = .ok (.if_icmp .le 6, 3) := by decide +kernel
theorem dX8_accelerate_16 : decode cX8_accelerate 16 = .ok (.bipush (-2), 2) := by decide +kernel
theorem dX8_accelerate_18 : decode cX8_accelerate 18 = .ok (.ireturn, 1) := by decide +kernel
theorem dX8_accelerate_19 : decode cX8_accelerate 19 = .ok (.aload_n 0, 1) := by decide +kernel
theorem dX8_accelerate_20 : decode cX8_accelerate 20 = .ok (.getfield 51, 3) := by decide +kernel
theorem dX8_accelerate_23 : decode cX8_accelerate 23 = .ok (.getfield 132, 3) := by decide +kernel
theorem dX8_accelerate_26 : decode cX8_accelerate 26 = .ok (.iload_n 1, 1) := by decide +kernel
theorem dX8_accelerate_27 : decode cX8_accelerate 27 = .ok (.iconst 4, 1) := by decide +kernel
theorem dX8_accelerate_28 : decode cX8_accelerate 28 = .ok (.idiv, 1) := by decide +kernel
theorem dX8_accelerate_29 : decode cX8_accelerate 29 = .ok (.iaload, 1) := by decide +kernel
theorem dX8_accelerate_30 : decode cX8_accelerate 30 = .ok (.istore_n 3, 1) := by decide +kernel
theorem dX8_accelerate_31 : decode cX8_accelerate 31 = .ok (.aload_n 0, 1) := by decide +kernel
theorem dX8_accelerate_32 : decode cX8_accelerate 32 = .ok (.getfield 51, 3) := by decide +kernel
theorem dX8_accelerate_35 : decode cX8_accelerate 35 = .ok (.getfield 132, 3) := by decide +kernel
theorem dX8_accelerate_38 : decode cX8_accelerate 38 = .ok (.iload_n 1, 1) := by decide +kernel
theorem dX8_accelerate_39 : decode cX8_accelerate 39 = .ok (.iconst 4, 1) := by decide +kernel
theorem dX8_accelerate_40 : decode cX8_accelerate 40 = .ok (.idiv, 1) := by decide +kernel
theorem dX8_accelerate_41 : decode cX8_accelerate 41 = .ok (.iload_n 2, 1) := by decide +kernel
theorem dX8_accelerate_42 : decode cX8_accelerate 42 = .ok (.iastore, 1) := by decide +kernel
theorem dX8_accelerate_43 : decode cX8_accelerate 43 = .ok (.iload_n 3, 1) := by decide +kernel
theorem dX8_accelerate_44 : decode cX8_accelerate 44 = .ok (.ireturn, 1) := by decide +kernel
theorem dX8_kept_0 : decode cX8_kept 0 = .ok (.aload_n 0, 1) := by decide +kernel
theorem dX8_kept_1 : decode cX8_kept 1 = .ok (.getfield 33, 3) := by decide +kernel
theorem dX8_kept_4 : decode cX8_kept 4 = .ok (.iload_n 1, 1) := by decide +kernel
theorem dX8_kept_5 : decode cX8_kept 5 = .ok (.invokevirtual 135, 3) := by decide +kernel
theorem dX8_kept_8 : decode cX8_kept 8 = .ok (.ireturn, 1) := by decide +kernel
theorem dX8_drop_0 : decode cX8_drop 0 = .ok (.iload_n 1, 1) := by decide +kernel
theorem dX8_drop_1 : decode cX8_drop 1 = .ok (.ifCond .lt 9, 3) := by decide +kernel
theorem dX8_drop_4 : decode cX8_drop 4 = .ok (.iload_n 1, 1) := by decide +kernel
theorem dX8_drop_5 : decode cX8_drop 5 = .ok (.bipush 16, 2) := by decide +kernel
theorem dX8_drop_7 : decode cX8_drop 7 = .ok (.if_icmp .lt 6, 3) := by decide +kernel
theorem dX8_drop_10 : decode cX8_drop 10 = .ok (.bipush (-2), 2) := by decide +kernel
theorem dX8_drop_12 : decode cX8_drop 12 = .ok (.ireturn, 1) := by decide +kernel
theorem dX8_drop_13 : decode cX8_drop 13 = .ok (.aload_n 0, 1) := by decide +kernel
theorem dX8_drop_14 : decode cX8_drop 14 = .ok (.getfield 33, 3) := by decide +kernel
theorem dX8_drop_17 : decode cX8_drop 17 = .ok (.iload_n 1, 1) := by decide +kernel
theorem dX8_drop_18 : decode cX8_drop 18 = .ok (.invokevirtual 139, 3) := by decide +kernel
theorem dX8_drop_21 : decode cX8_drop 21 = .ok (.ireturn, 1) := by decide +kernel
theorem dX8_count_0 : decode cX8_count 0 = .ok (.iload_n 1, 1) := by decide +kernel
theorem dX8_count_1 : decode cX8_count 1 = .ok (.ifCond .lt 9, 3) := by decide +kernel
theorem dX8_count_4 : decode cX8_count 4 = .ok (.iload_n 1, 1) := by decide +kernel
theorem dX8_count_5 : decode cX8_count 5 = .ok (.bipush 8, 2) := by decide +kernel
theorem dX8_count_7 : decode cX8_count 7 = .ok (.if_icmp .lt 8, 3) := by decide +kernel
theorem dX8_count_10 : decode cX8_count 10 = .ok (.bipush (-2), 2) := by decide +kernel
theorem dX8_count_12 : decode cX8_count 12 = .ok (.goto 9, 3) := by decide +kernel
theorem dX8_count_15 : decode cX8_count 15 = .ok (.aload_n 0, 1) := by decide +kernel
theorem dX8_count_16 : decode cX8_count 16 = .ok (.getfield 9, 3) := by decide +kernel
theorem dX8_count_19 : decode cX8_count 19 = .ok (.iload_n 1, 1) := by decide +kernel
theorem dX8_count_20 : decode cX8_count 20 = .ok (.iaload, 1) := by decide +kernel
theorem dX8_count_21 : decode cX8_count 21 = .ok (.ireturn, 1) := by decide +kernel
theorem dX8_refusalOf_0 : decode cX8_refusalOf 0 = .ok (.iload_n 2, 1) := by decide +kernel
theorem dX8_refusalOf_1 : decode cX8_refusalOf 1 = .ok (.ifCond .lt 15, 3) := by decide +kernel
theorem dX8_refusalOf_4 : decode cX8_refusalOf 4 = .ok (.iload_n 2, 1) := by decide +kernel
theorem dX8_refusalOf_5 : decode cX8_refusalOf 5 = .ok (.iconst 4, 1) := by decide +kernel
theorem dX8_refusalOf_6 : decode cX8_refusalOf 6 = .ok (.if_icmp .gt 10, 3) := by decide +kernel
theorem dX8_refusalOf_9 : decode cX8_refusalOf 9 = .ok (.iload_n 1, 1) := by decide +kernel
theorem dX8_refusalOf_10 : decode cX8_refusalOf 10 = .ok (.invokestatic 78, 3) := by decide +kernel
theorem dX8_refusalOf_13 : decode cX8_refusalOf 13 = .ok (.ifCond .ne 6, 3) := by decide +kernel
theorem dX8_refusalOf_16 : decode cX8_refusalOf 16 = .ok (.bipush (-2), 2) := by decide +kernel
theorem dX8_refusalOf_18 : decode cX8_refusalOf 18 = .ok (.ireturn, 1) := by decide +kernel
theorem dX8_refusalOf_19 : decode cX8_refusalOf 19 = .ok (.aload_n 0, 1) := by decide +kernel
theorem dX8_refusalOf_20 : decode cX8_refusalOf 20 = .ok (.getfield 9, 3) := by decide +kernel
theorem dX8_refusalOf_23 : decode cX8_refusalOf 23 = .ok (.bipush 6, 2) := by decide +kernel
theorem dX8_refusalOf_25 : decode cX8_refusalOf 25 = .ok (.iaload, 1) := by decide +kernel
theorem dX8_refusalOf_26 : decode cX8_refusalOf 26 = .ok (.sipush 500, 3) := by decide +kernel
theorem dX8_refusalOf_29 : decode cX8_refusalOf 29 = .ok (.if_icmp .lt 8, 3) := by decide +kernel
theorem dX8_refusalOf_32 : decode cX8_refusalOf 32 = .ok (.bipush (-3), 2) := by decide +kernel
theorem dX8_refusalOf_34 : decode cX8_refusalOf 34 = .ok (.goto 4, 3) := by decide +kernel
theorem dX8_refusalOf_37 : decode cX8_refusalOf 37 = .ok (.iconst 0, 1) := by decide +kernel
theorem dX8_refusalOf_38 : decode cX8_refusalOf 38 = .ok (.ireturn, 1) := by decide +kernel
theorem dX8_isAddress_0 : decode cX8_isAddress 0 = .ok (.iload_n 0, 1) := by decide +kernel
theorem dX8_isAddress_1 : decode cX8_isAddress 1 = .ok (.ifCond .lt 20, 3) := by decide +kernel
theorem dX8_isAddress_4 : decode cX8_isAddress 4 = .ok (.iload_n 0, 1) := by decide +kernel
theorem dX8_isAddress_5 : decode cX8_isAddress 5 = .ok (.sipush 1020, 3) := by decide +kernel
theorem dX8_isAddress_8 : decode cX8_isAddress 8 = .ok (.if_icmp .gt 13, 3) := by decide +kernel
theorem dX8_isAddress_11 : decode cX8_isAddress 11 = .ok (.iload_n 0, 1) := by decide +kernel
theorem dX8_isAddress_12 : decode cX8_isAddress 12 = .ok (.iconst 4, 1) := by decide +kernel
theorem dX8_isAddress_13 : decode cX8_isAddress 13 = .ok (.irem, 1) := by decide +kernel
theorem dX8_isAddress_14 : decode cX8_isAddress 14 = .ok (.ifCond .ne 7, 3) := by decide +kernel
theorem dX8_isAddress_17 : decode cX8_isAddress 17 = .ok (.iconst 1, 1) := by decide +kernel
theorem dX8_isAddress_18 : decode cX8_isAddress 18 = .ok (.goto 4, 3) := by decide +kernel
theorem dX8_isAddress_21 : decode cX8_isAddress 21 = .ok (.iconst 0, 1) := by decide +kernel
theorem dX8_isAddress_22 : decode cX8_isAddress 22 = .ok (.ireturn, 1) := by decide +kernel
theorem dX8_isPlace_0 : decode cX8_isPlace 0 = .ok (.iload_n 0, 1) := by decide +kernel
theorem dX8_isPlace_1 : decode cX8_isPlace 1 = .ok (.ifCond .lt 14, 3) := by decide +kernel
theorem dX8_isPlace_4 : decode cX8_isPlace 4 = .ok (.iload_n 0, 1) := by decide +kernel
theorem dX8_isPlace_5 : decode cX8_isPlace 5 = .ok (.sipush 1024, 3) := by decide +kernel
theorem dX8_isPlace_8 : decode cX8_isPlace 8 = .ok (.if_icmp .ge 7, 3) := by decide +kernel
theorem dX8_isPlace_11 : decode cX8_isPlace 11 = .ok (.iconst 1, 1) := by decide +kernel
theorem dX8_isPlace_12 : decode cX8_isPlace 12 = .ok (.goto 4, 3) := by decide +kernel
theorem dX8_isPlace_15 : decode cX8_isPlace 15 = .ok (.iconst 0, 1) := by decide +kernel
theorem dX8_isPlace_16 : decode cX8_isPlace 16 = .ok (.ireturn, 1) := by decide +kernel
theorem dX9_init_0 : decode cX9_init 0 = .ok (.aload_n 0, 1) := by decide +kernel
theorem dX9_init_1 : decode cX9_init 1 = .ok (.invokespecial 1, 3) := by decide +kernel
theorem dX9_init_4 : decode cX9_init 4 = .ok (.aload_n 0, 1) := by decide +kernel
theorem dX9_init_5 : decode cX9_init 5 = .ok (.sipush 1024, 3) := by decide +kernel
theorem dX9_init_8 : decode cX9_init 8 = .ok (.newarray .int, 2) := by decide +kernel
theorem dX9_init_10 : decode cX9_init 10 = .ok (.putfield 7, 3) := by decide +kernel
theorem dX9_init_13 : decode cX9_init 13 = .ok (.aload_n 0, 1) := by decide +kernel
theorem dX9_init_14 : decode cX9_init 14 = .ok (.bipush 8, 2) := by decide +kernel
theorem dX9_init_16 : decode cX9_init 16 = .ok (.newarray .int, 2) := by decide +kernel
theorem dX9_init_18 : decode cX9_init 18 = .ok (.putfield 13, 3) := by decide +kernel
theorem dX9_init_21 : decode cX9_init 21 = .ok (.aload_n 0, 1) := by decide +kernel
theorem dX9_init_22 : decode cX9_init 22 = .ok (.iconst 4, 1) := by decide +kernel
theorem dX9_init_23 : decode cX9_init 23 = .ok (.newarray .int, 2) := by decide +kernel
theorem dX9_init_25 : decode cX9_init 25 = .ok (.putfield 16, 3) := by decide +kernel
theorem dX9_init_28 : decode cX9_init 28 = .ok (.aload_n 0, 1) := by decide +kernel
theorem dX9_init_29 : decode cX9_init 29 = .ok (.sipush 256, 3) := by decide +kernel
theorem dX9_init_32 : decode cX9_init 32 = .ok (.newarray .int, 2) := by decide +kernel
theorem dX9_init_34 : decode cX9_init 34 = .ok (.putfield 19, 3) := by decide +kernel
theorem dX9_init_37 : decode cX9_init 37 = .ok (.aload_n 0, 1) := by decide +kernel
theorem dX9_init_38 : decode cX9_init 38 = .ok (.bipush 21, 2) := by decide +kernel
theorem dX9_init_40 : decode cX9_init 40 = .ok (.newarray .int, 2) := by decide +kernel
theorem dX9_init_42 : decode cX9_init 42 = .ok (.putfield 22, 3) := by decide +kernel
theorem dX9_init_45 : decode cX9_init 45 = .ok (.aload_n 0, 1) := by decide +kernel
theorem dX9_init_46 : decode cX9_init 46 = .ok (.bipush 21, 2) := by decide +kernel
theorem dX9_init_48 : decode cX9_init 48 = .ok (.newarray .int, 2) := by decide +kernel
theorem dX9_init_50 : decode cX9_init 50 = .ok (.putfield 25, 3) := by decide +kernel
theorem dX9_init_53 : decode cX9_init 53 = .ok (.aload_n 0, 1) := by decide +kernel
theorem dX9_init_54 : decode cX9_init 54 = .ok (.bipush 21, 2) := by decide +kernel
theorem dX9_init_56 : decode cX9_init 56 = .ok (.newarray .int, 2) := by decide +kernel
theorem dX9_init_58 : decode cX9_init 58 = .ok (.putfield 28, 3) := by decide +kernel
theorem dX9_init_61 : decode cX9_init 61 = .ok (.aload_n 0, 1) := by decide +kernel
theorem dX9_init_62 : decode cX9_init 62 = .ok (.iconst (-1), 1) := by decide +kernel
theorem dX9_init_63 : decode cX9_init 63 = .ok (.putfield 31, 3) := by decide +kernel
theorem dX9_init_66 : decode cX9_init 66 = .ok (.aload_n 0, 1) := by decide +kernel
theorem dX9_init_67 : decode cX9_init 67 = .ok (.bipush 8, 2) := by decide +kernel
theorem dX9_init_69 : decode cX9_init 69 = .ok (.newarray .int, 2) := by decide +kernel
theorem dX9_init_71 : decode cX9_init 71 = .ok (.putfield 35, 3) := by decide +kernel
theorem dX9_init_74 : decode cX9_init 74 = .ok (.aload_n 0, 1) := by decide +kernel
theorem dX9_init_75 : decode cX9_init 75 = .ok (.bipush 61, 2) := by decide +kernel
theorem dX9_init_77 : decode cX9_init 77 = .ok (.newarray .int, 2) := by decide +kernel
theorem dX9_init_79 : decode cX9_init 79 = .ok (.putfield 38, 3) := by decide +kernel
theorem dX9_init_82 : decode cX9_init 82 = .ok (.aload_n 0, 1) := by decide +kernel
theorem dX9_init_83 : decode cX9_init 83 = .ok (.bipush 61, 2) := by decide +kernel
theorem dX9_init_85 : decode cX9_init 85 = .ok (.newarray .int, 2) := by decide +kernel
theorem dX9_init_87 : decode cX9_init 87 = .ok (.putfield 41, 3) := by decide +kernel
theorem dX9_init_90 : decode cX9_init 90 = .ok (.aload_n 0, 1) := by decide +kernel
theorem dX9_init_91 : decode cX9_init 91 = .ok (.bipush 12, 2) := by decide +kernel
theorem dX9_init_93 : decode cX9_init 93 = .ok (.newarray .int, 2) := by decide +kernel
theorem dX9_init_95 : decode cX9_init 95 = .ok (.putfield 44, 3) := by decide +kernel
theorem dX9_init_98 : decode cX9_init 98 = .ok (.aload_n 0, 1) := by decide +kernel
theorem dX9_init_99 : decode cX9_init 99 = .ok (.bipush 12, 2) := by decide +kernel
theorem dX9_init_101 : decode cX9_init 101 = .ok (.newarray .int, 2) := by decide +kernel
theorem dX9_init_103 : decode cX9_init 103 = .ok (.putfield 47, 3) := by decide +kernel
theorem dX9_init_106 : decode cX9_init 106 = .ok (.aload_n 0, 1) := by decide +kernel
theorem dX9_init_107 : decode cX9_init 107 = .ok (.bipush 12, 2) := by decide +kernel
theorem dX9_init_109 : decode cX9_init 109 = .ok (.newarray .int, 2) := by decide +kernel
theorem dX9_init_111 : decode cX9_init 111 = .ok (.putfield 50, 3) := by decide +kernel
theorem dX9_init_114 : decode cX9_init 114 = .ok (.aload_n 0, 1) := by decide +kernel
theorem dX9_init_115 : decode cX9_init 115 = .ok (.bipush 12, 2) := by decide +kernel
theorem dX9_init_117 : decode cX9_init 117 = .ok (.newarray .int, 2) := by decide +kernel
theorem dX9_init_119 : decode cX9_init 119 = .ok (.putfield 53, 3) := by decide +kernel
theorem dX9_init_122 : decode cX9_init 122 = .ok (.aload_n 0, 1) := by decide +kernel
theorem dX9_init_123 : decode cX9_init 123 = .ok (.bipush 12, 2) := by decide +kernel
theorem dX9_init_125 : decode cX9_init 125 = .ok (.newarray .int, 2) := by decide +kernel
theorem dX9_init_127 : decode cX9_init 127 = .ok (.putfield 56, 3) := by decide +kernel
theorem dX9_init_130 : decode cX9_init 130 = .ok (.aload_n 0, 1) := by decide +kernel
theorem dX9_init_131 : decode cX9_init 131 = .ok (.bipush 12, 2) := by decide +kernel
theorem dX9_init_133 : decode cX9_init 133 = .ok (.newarray .int, 2) := by decide +kernel
theorem dX9_init_135 : decode cX9_init 135 = .ok (.putfield 59, 3) := by decide +kernel
theorem dX9_init_138 : decode cX9_init 138 = .ok (.aload_n 0, 1) := by decide +kernel
theorem dX9_init_139 : decode cX9_init 139 = .ok (.bipush 96, 2) := by decide +kernel
theorem dX9_init_141 : decode cX9_init 141 = .ok (.newarray .int, 2) := by decide +kernel
theorem dX9_init_143 : decode cX9_init 143 = .ok (.putfield 62, 3) := by decide +kernel
theorem dX9_init_146 : decode cX9_init 146 = .ok (.aload_n 0, 1) := by decide +kernel
theorem dX9_init_147 : decode cX9_init 147 = .ok (.iconst 4, 1) := by decide +kernel
theorem dX9_init_148 : decode cX9_init 148 = .ok (.newarray .int, 2) := by decide +kernel
theorem dX9_init_150 : decode cX9_init 150 = .ok (.putfield 65, 3) := by decide +kernel
theorem dX9_init_153 : decode cX9_init 153 = .ok (.aload_n 0, 1) := by decide +kernel
theorem dX9_init_154 : decode cX9_init 154 = .ok (.iconst (-1), 1) := by decide +kernel
theorem dX9_init_155 : decode cX9_init 155 = .ok (.putfield 68, 3) := by decide +kernel
theorem dX9_init_158 : decode cX9_init 158 = .ok (.aload_n 0, 1) := by decide +kernel
theorem dX9_init_159 : decode cX9_init 159 = .ok (.iconst (-1), 1) := by decide +kernel
theorem dX9_init_160 : decode cX9_init 160 = .ok (.putfield 71, 3) := by decide +kernel
theorem dX9_init_163 : decode cX9_init 163 = .ok (.aload_n 0, 1) := by decide +kernel
theorem dX9_init_164 : decode cX9_init 164 = .ok (.iload_n 1, 1) := by decide +kernel
theorem dX9_init_165 : decode cX9_init 165 = .ok (.ifCond .ge 7, 3) := by decide +kernel
theorem dX9_init_168 : decode cX9_init 168 = .ok (.iconst 0, 1) := by decide +kernel
theorem dX9_init_169 : decode cX9_init 169 = .ok (.goto 15, 3) := by decide +kernel
theorem dX9_init_172 : decode cX9_init 172 = .ok (.iload_n 1, 1) := by decide +kernel
theorem dX9_init_173 : decode cX9_init 173 = .ok (.bipush 20, 2) := by decide +kernel
theorem dX9_init_175 : decode cX9_init 175 = .ok (.if_icmp .le 8, 3) := by decide +kernel
theorem dX9_init_178 : decode cX9_init 178 = .ok (.bipush 20, 2) := by decide +kernel
theorem dX9_init_180 : decode cX9_init 180 = .ok (.goto 4, 3) := by decide +kernel
theorem dX9_init_183 : decode cX9_init 183 = .ok (.iload_n 1, 1) := by decide +kernel
theorem dX9_init_184 : decode cX9_init 184 = .ok (.putfield 74, 3) := by decide +kernel
theorem dX9_init_187 : decode cX9_init 187 = .ok (.return_, 1) := by decide +kernel
theorem dX9_thrown_0 : decode cX9_thrown 0 = .ok (.aload_n 0, 1) := by decide +kernel
theorem dX9_thrown_1 : decode cX9_thrown 1 = .ok (.getfield 77, 3) := by decide +kernel
theorem dX9_thrown_4 : decode cX9_thrown 4 = .ok (.ireturn, 1) := by decide +kernel
theorem dX9_isPlace_0 : decode cX9_isPlace 0 = .ok (.iload_n 1, 1) := by decide +kernel
theorem dX9_isPlace_1 : decode cX9_isPlace 1 = .ok (.ifCond .lt 14, 3) := by decide +kernel
theorem dX9_isPlace_4 : decode cX9_isPlace 4 = .ok (.iload_n 1, 1) := by decide +kernel
theorem dX9_isPlace_5 : decode cX9_isPlace 5 = .ok (.sipush 1024, 3) := by decide +kernel
theorem dX9_isPlace_8 : decode cX9_isPlace 8 = .ok (.if_icmp .ge 7, 3) := by decide +kernel
theorem dX9_isPlace_11 : decode cX9_isPlace 11 = .ok (.iconst 1, 1) := by decide +kernel
theorem dX9_isPlace_12 : decode cX9_isPlace 12 = .ok (.goto 4, 3) := by decide +kernel
theorem dX9_isPlace_15 : decode cX9_isPlace 15 = .ok (.iconst 0, 1) := by decide +kernel
theorem dX9_isPlace_16 : decode cX9_isPlace 16 = .ok (.ireturn, 1) := by decide +kernel
theorem dX9_away_0 : decode cX9_away 0 = .ok (.aload_n 0, 1) := by decide +kernel
theorem dX9_away_1 : decode cX9_away 1 = .ok (.dup, 1) := by decide +kernel
theorem dX9_away_2 : decode cX9_away 2 = .ok (.getfield 80, 3) := by decide +kernel
theorem dX9_away_5 : decode cX9_away 5 = .ok (.iconst 1, 1) := by decide +kernel
theorem dX9_away_6 : decode cX9_away 6 = .ok (.isub, 1) := by decide +kernel
theorem dX9_away_7 : decode cX9_away 7 = .ok (.putfield 80, 3) := by decide +kernel
theorem dX9_away_10 : decode cX9_away 10 = .ok (.aload_n 0, 1) := by decide +kernel
theorem dX9_away_11 : decode cX9_away 11 = .ok (.dup, 1) := by decide +kernel
theorem dX9_away_12 : decode cX9_away 12 = .ok (.getfield 83, 3) := by decide +kernel
theorem dX9_away_15 : decode cX9_away 15 = .ok (.iconst 1, 1) := by decide +kernel
theorem dX9_away_16 : decode cX9_away 16 = .ok (.iadd, 1) := by decide +kernel
theorem dX9_away_17 : decode cX9_away 17 = .ok (.putfield 83, 3) := by decide +kernel
theorem dX9_away_20 : decode cX9_away 20 = .ok (.iload_n 1, 1) := by decide +kernel
theorem dX9_away_21 : decode cX9_away 21 = .ok (.istore_n 2, 1) := by decide +kernel
theorem dX9_away_22 : decode cX9_away 22 = .ok (.iload_n 2, 1) := by decide +kernel
theorem dX9_away_23 : decode cX9_away 23 = .ok (.aload_n 0, 1) := by decide +kernel
theorem dX9_away_24 : decode cX9_away 24 = .ok (.getfield 80, 3) := by decide +kernel
theorem dX9_away_27 : decode cX9_away 27 = .ok (.if_icmp .ge 51, 3) := by decide +kernel
theorem dX9_away_30 : decode cX9_away 30 = .ok (.aload_n 0, 1) := by decide +kernel
theorem dX9_away_31 : decode cX9_away 31 = .ok (.getfield 22, 3) := by decide +kernel
theorem dX9_away_34 : decode cX9_away 34 = .ok (.iload_n 2, 1) := by decide +kernel
theorem dX9_away_35 : decode cX9_away 35 = .ok (.aload_n 0, 1) := by decide +kernel
theorem dX9_away_36 : decode cX9_away 36 = .ok (.getfield 22, 3) := by decide +kernel
theorem dX9_away_39 : decode cX9_away 39 = .ok (.iload_n 2, 1) := by decide +kernel
theorem dX9_away_40 : decode cX9_away 40 = .ok (.iconst 1, 1) := by decide +kernel
theorem dX9_away_41 : decode cX9_away 41 = .ok (.iadd, 1) := by decide +kernel
theorem dX9_away_42 : decode cX9_away 42 = .ok (.iaload, 1) := by decide +kernel
theorem dX9_away_43 : decode cX9_away 43 = .ok (.iastore, 1) := by decide +kernel
theorem dX9_away_44 : decode cX9_away 44 = .ok (.aload_n 0, 1) := by decide +kernel
theorem dX9_away_45 : decode cX9_away 45 = .ok (.getfield 25, 3) := by decide +kernel
theorem dX9_away_48 : decode cX9_away 48 = .ok (.iload_n 2, 1) := by decide +kernel
theorem dX9_away_49 : decode cX9_away 49 = .ok (.aload_n 0, 1) := by decide +kernel
theorem dX9_away_50 : decode cX9_away 50 = .ok (.getfield 25, 3) := by decide +kernel
theorem dX9_away_53 : decode cX9_away 53 = .ok (.iload_n 2, 1) := by decide +kernel
theorem dX9_away_54 : decode cX9_away 54 = .ok (.iconst 1, 1) := by decide +kernel
theorem dX9_away_55 : decode cX9_away 55 = .ok (.iadd, 1) := by decide +kernel
theorem dX9_away_56 : decode cX9_away 56 = .ok (.iaload, 1) := by decide +kernel
theorem dX9_away_57 : decode cX9_away 57 = .ok (.iastore, 1) := by decide +kernel
theorem dX9_away_58 : decode cX9_away 58 = .ok (.aload_n 0, 1) := by decide +kernel
theorem dX9_away_59 : decode cX9_away 59 = .ok (.getfield 28, 3) := by decide +kernel
theorem dX9_away_62 : decode cX9_away 62 = .ok (.iload_n 2, 1) := by decide +kernel
theorem dX9_away_63 : decode cX9_away 63 = .ok (.aload_n 0, 1) := by decide +kernel
theorem dX9_away_64 : decode cX9_away 64 = .ok (.getfield 28, 3) := by decide +kernel
theorem dX9_away_67 : decode cX9_away 67 = .ok (.iload_n 2, 1) := by decide +kernel
theorem dX9_away_68 : decode cX9_away 68 = .ok (.iconst 1, 1) := by decide +kernel
theorem dX9_away_69 : decode cX9_away 69 = .ok (.iadd, 1) := by decide +kernel
theorem dX9_away_70 : decode cX9_away 70 = .ok (.iaload, 1) := by decide +kernel
theorem dX9_away_71 : decode cX9_away 71 = .ok (.iastore, 1) := by decide +kernel
theorem dX9_away_72 : decode cX9_away 72 = .ok (.iinc 2 1, 3) := by decide +kernel
theorem dX9_away_75 : decode cX9_away 75 = .ok (.goto (-53), 3) := by decide +kernel
theorem dX9_away_78 : decode cX9_away 78 = .ok (.return_, 1) := by decide +kernel
theorem dX9_dropPage_0 : decode cX9_dropPage 0 = .ok (.aload_n 0, 1) := by decide +kernel
theorem dX9_dropPage_1 : decode cX9_dropPage 1 = .ok (.getfield 80, 3) := by decide +kernel
theorem dX9_dropPage_4 : decode cX9_dropPage 4 = .ok (.istore_n 2, 1) := by decide +kernel
theorem dX9_dropPage_5 : decode cX9_dropPage 5 = .ok (.aload_n 0, 1) := by decide +kernel
theorem dX9_dropPage_6 : decode cX9_dropPage 6 = .ok (.getfield 80, 3) := by decide +kernel
theorem dX9_dropPage_9 : decode cX9_dropPage 9 = .ok (.iconst 1, 1) := by decide +kernel
theorem dX9_dropPage_10 : decode cX9_dropPage 10 = .ok (.isub, 1) := by decide +kernel
theorem dX9_dropPage_11 : decode cX9_dropPage 11 = .ok (.istore_n 3, 1) := by decide +kernel
theorem dX9_dropPage_12 : decode cX9_dropPage 12 = .ok (.iload_n 3, 1) := by decide +kernel
theorem dX9_dropPage_13 : decode cX9_dropPage 13 = .ok (.ifCond .lt 40, 3) := by decide +kernel
theorem dX9_dropPage_16 : decode cX9_dropPage 16 = .ok (.aload_n 0, 1) := by decide +kernel
theorem dX9_dropPage_17 : decode cX9_dropPage 17 = .ok (.getfield 22, 3) := by decide +kernel
theorem dX9_dropPage_20 : decode cX9_dropPage 20 = .ok (.iload_n 3, 1) := by decide +kernel
theorem dX9_dropPage_21 : decode cX9_dropPage 21 = .ok (.iaload, 1) := by decide +kernel
theorem dX9_dropPage_22 : decode cX9_dropPage 22 = .ok (.bipush 64, 2) := by decide +kernel
theorem dX9_dropPage_24 : decode cX9_dropPage 24 = .ok (.idiv, 1) := by decide +kernel
theorem dX9_dropPage_25 : decode cX9_dropPage 25 = .ok (.iload_n 1, 1) := by decide +kernel
theorem dX9_dropPage_26 : decode cX9_dropPage 26 = .ok (.if_icmp .gt 21, 3) := by decide +kernel
theorem dX9_dropPage_29 : decode cX9_dropPage 29 = .ok (.aload_n 0, 1) := by decide +kernel
theorem dX9_dropPage_30 : decode cX9_dropPage 30 = .ok (.getfield 25, 3) := by decide +kernel
theorem dX9_dropPage_33 : decode cX9_dropPage 33 = .ok (.iload_n 3, 1) := by decide +kernel
theorem dX9_dropPage_34 : decode cX9_dropPage 34 = .ok (.iaload, 1) := by decide +kernel
theorem dX9_dropPage_35 : decode cX9_dropPage 35 = .ok (.bipush 64, 2) := by decide +kernel
theorem dX9_dropPage_37 : decode cX9_dropPage 37 = .ok (.idiv, 1) := by decide +kernel
theorem dX9_dropPage_38 : decode cX9_dropPage 38 = .ok (.iload_n 1, 1) := by decide +kernel
theorem dX9_dropPage_39 : decode cX9_dropPage 39 = .ok (.if_icmp .lt 8, 3) := by decide +kernel
theorem dX9_dropPage_42 : decode cX9_dropPage 42 = .ok (.aload_n 0, 1) := by decide +kernel
theorem dX9_dropPage_43 : decode cX9_dropPage 43 = .ok (.iload_n 3, 1) := by decide +kernel
theorem dX9_dropPage_44 : decode cX9_dropPage 44 = .ok (.invokevirtual 86, 3) := by decide +kernel
theorem dX9_dropPage_47 : decode cX9_dropPage 47 = .ok (.iinc 3 (-1), 3) := by decide +kernel
theorem dX9_dropPage_50 : decode cX9_dropPage 50 = .ok (.goto (-38), 3) := by decide +kernel
theorem dX9_dropPage_53 : decode cX9_dropPage 53 = .ok (.iload_n 2, 1) := by decide +kernel
theorem dX9_dropPage_54 : decode cX9_dropPage 54 = .ok (.aload_n 0, 1) := by decide +kernel
theorem dX9_dropPage_55 : decode cX9_dropPage 55 = .ok (.getfield 80, 3) := by decide +kernel
theorem dX9_dropPage_58 : decode cX9_dropPage 58 = .ok (.isub, 1) := by decide +kernel
theorem dX9_dropPage_59 : decode cX9_dropPage 59 = .ok (.ireturn, 1) := by decide +kernel
theorem dX9_write_0 : decode cX9_write 0 = .ok (.iload_n 2, 1) := by decide +kernel
theorem dX9_write_1 : decode cX9_write 1 = .ok (.sipush 255, 3) := by decide +kernel
theorem dX9_write_4 : decode cX9_write 4 = .ok (.iand, 1) := by decide +kernel
theorem dX9_write_5 : decode cX9_write 5 = .ok (.istore_n 3, 1) := by decide +kernel
theorem dX9_write_6 : decode cX9_write 6 = .ok (.aload_n 0, 1) := by decide +kernel
theorem dX9_write_7 : decode cX9_write 7 = .ok (.getfield 7, 3) := by decide +kernel
theorem dX9_write_10 : decode cX9_write 10 = .ok (.iload_n 1, 1) := by decide +kernel
theorem dX9_write_11 : decode cX9_write 11 = .ok (.iaload, 1) := by decide +kernel
theorem dX9_write_12 : decode cX9_write 12 = .ok (.iload_n 3, 1) := by decide +kernel
theorem dX9_write_13 : decode cX9_write 13 = .ok (.if_icmp .ne 5, 3) := by decide +kernel
theorem dX9_write_16 : decode cX9_write 16 = .ok (.iconst 0, 1) := by decide +kernel
theorem dX9_write_17 : decode cX9_write 17 = .ok (.ireturn, 1) := by decide +kernel
theorem dX9_write_18 : decode cX9_write 18 = .ok (.aload_n 0, 1) := by decide +kernel
theorem dX9_write_19 : decode cX9_write 19 = .ok (.getfield 7, 3) := by decide +kernel
theorem dX9_write_22 : decode cX9_write 22 = .ok (.iload_n 1, 1) := by decide +kernel
theorem dX9_write_23 : decode cX9_write 23 = .ok (.iload_n 3, 1) := by decide +kernel
theorem dX9_write_24 : decode cX9_write 24 = .ok (.iastore, 1) := by decide +kernel
theorem dX9_write_25 : decode cX9_write 25 = .ok (.aload_n 0, 1) := by decide +kernel
theorem dX9_write_26 : decode cX9_write 26 = .ok (.iload_n 1, 1) := by decide +kernel
theorem dX9_write_27 : decode cX9_write 27 = .ok (.bipush 64, 2) := by decide +kernel
theorem dX9_write_29 : decode cX9_write 29 = .ok (.idiv, 1) := by decide +kernel
theorem dX9_write_30 : decode cX9_write 30 = .ok (.invokevirtual 90, 3) := by decide +kernel
theorem dX9_write_33 : decode cX9_write 33 = .ok (.ireturn, 1) := by decide +kernel
theorem dX9_poke_0 : decode cX9_poke 0 = .ok (.aload_n 0, 1) := by decide +kernel
theorem dX9_poke_1 : decode cX9_poke 1 = .ok (.aload_n 0, 1) := by decide +kernel
theorem dX9_poke_2 : decode cX9_poke 2 = .ok (.iload_n 1, 1) := by decide +kernel
theorem dX9_poke_3 : decode cX9_poke 3 = .ok (.invokevirtual 94, 3) := by decide +kernel
theorem dX9_poke_6 : decode cX9_poke 6 = .ok (.ifCond .eq 7, 3) := by decide +kernel
theorem dX9_poke_9 : decode cX9_poke 9 = .ok (.iconst 0, 1) := by decide +kernel
theorem dX9_poke_10 : decode cX9_poke 10 = .ok (.goto 4, 3) := by decide +kernel
theorem dX9_poke_13 : decode cX9_poke 13 = .ok (.iconst 1, 1) := by decide +kernel
theorem dX9_poke_14 : decode cX9_poke 14 = .ok (.putfield 77, 3) := by decide +kernel
theorem dX9_poke_17 : decode cX9_poke 17 = .ok (.aload_n 0, 1) := by decide +kernel
theorem dX9_poke_18 : decode cX9_poke 18 = .ok (.getfield 77, 3) := by decide +kernel
theorem dX9_poke_21 : decode cX9_poke 21 = .ok (.ifCond .le 5, 3) := by decide +kernel
theorem dX9_poke_24 : decode cX9_poke 24 = .ok (.iconst 0, 1) := by decide +kernel
theorem dX9_poke_25 : decode cX9_poke 25 = .ok (.ireturn, 1) := by decide +kernel
theorem dX9_poke_26 : decode cX9_poke 26 = .ok (.aload_n 0, 1) := by decide +kernel
theorem dX9_poke_27 : decode cX9_poke 27 = .ok (.getfield 7, 3) := by decide +kernel
theorem dX9_poke_30 : decode cX9_poke 30 = .ok (.iload_n 1, 1) := by decide +kernel
theorem dX9_poke_31 : decode cX9_poke 31 = .ok (.iaload, 1) := by decide +kernel
theorem dX9_poke_32 : decode cX9_poke 32 = .ok (.istore_n 3, 1) := by decide +kernel
theorem dX9_poke_33 : decode cX9_poke 33 = .ok (.aload_n 0, 1) := by decide +kernel
theorem dX9_poke_34 : decode cX9_poke 34 = .ok (.iload_n 1, 1) := by decide +kernel
theorem dX9_poke_35 : decode cX9_poke 35 = .ok (.iload_n 2, 1) := by decide +kernel
theorem dX9_poke_36 : decode cX9_poke 36 = .ok (.invokevirtual 98, 3) := by decide +kernel
end
section
theorem dX9_poke_39 : decode cX9_poke 39 = .ok (.istore 4, 2) := by decide +kernel
theorem dX9_poke_41 : decode cX9_poke 41 = .ok (.iload_n 3, 1) := by decide +kernel
theorem dX9_poke_42 : decode cX9_poke 42 = .ok (.ireturn, 1) := by decide +kernel
theorem dX9_feed_0 : decode cX9_feed 0 = .ok (.aload_n 0, 1) := by decide +kernel
theorem dX9_feed_1 : decode cX9_feed 1 = .ok (.iconst 0, 1) := by decide +kernel
theorem dX9_feed_2 : decode cX9_feed 2 = .ok (.putfield 77, 3) := by decide +kernel
theorem dX9_feed_5 : decode cX9_feed 5 = .ok (.iload_n 2, 1) := by decide +kernel
theorem dX9_feed_6 : decode cX9_feed 6 = .ok (.iconst 1, 1) := by decide +kernel
theorem dX9_feed_7 : decode cX9_feed 7 = .ok (.if_icmp .lt 22, 3) := by decide +kernel
theorem dX9_feed_10 : decode cX9_feed 10 = .ok (.iload_n 2, 1) := by decide +kernel
theorem dX9_feed_11 : decode cX9_feed 11 = .ok (.bipush 8, 2) := by decide +kernel
theorem dX9_feed_13 : decode cX9_feed 13 = .ok (.if_icmp .gt 16, 3) := by decide +kernel
theorem dX9_feed_16 : decode cX9_feed 16 = .ok (.iload_n 1, 1) := by decide +kernel
theorem dX9_feed_17 : decode cX9_feed 17 = .ok (.ifCond .lt 12, 3) := by decide +kernel
theorem dX9_feed_20 : decode cX9_feed 20 = .ok (.iload_n 1, 1) := by decide +kernel
theorem dX9_feed_21 : decode cX9_feed 21 = .ok (.sipush 1024, 3) := by decide +kernel
theorem dX9_feed_24 : decode cX9_feed 24 = .ok (.iload_n 2, 1) := by decide +kernel
theorem dX9_feed_25 : decode cX9_feed 25 = .ok (.isub, 1) := by decide +kernel
theorem dX9_feed_26 : decode cX9_feed 26 = .ok (.if_icmp .le 6, 3) := by decide +kernel
theorem dX9_feed_29 : decode cX9_feed 29 = .ok (.bipush (-2), 2) := by decide +kernel
theorem dX9_feed_31 : decode cX9_feed 31 = .ok (.ireturn, 1) := by decide +kernel
theorem dX9_feed_32 : decode cX9_feed 32 = .ok (.iconst 0, 1) := by decide +kernel
theorem dX9_feed_33 : decode cX9_feed 33 = .ok (.istore 5, 2) := by decide +kernel
theorem dX9_feed_35 : decode cX9_feed 35 = .ok (.iconst 0, 1) := by decide +kernel
theorem dX9_feed_36 : decode cX9_feed 36 = .ok (.istore 6, 2) := by decide +kernel
theorem dX9_feed_38 : decode cX9_feed 38 = .ok (.iload 6, 2) := by decide +kernel
theorem dX9_feed_40 : decode cX9_feed 40 = .ok (.iload_n 2, 1) := by decide +kernel
theorem dX9_feed_41 : decode cX9_feed 41 = .ok (.if_icmp .ge 38, 3) := by decide +kernel
theorem dX9_feed_44 : decode cX9_feed 44 = .ok (.iload 5, 2) := by decide +kernel
theorem dX9_feed_46 : decode cX9_feed 46 = .ok (.aload_n 0, 1) := by decide +kernel
theorem dX9_feed_47 : decode cX9_feed 47 = .ok (.iload_n 1, 1) := by decide +kernel
theorem dX9_feed_48 : decode cX9_feed 48 = .ok (.iload 6, 2) := by decide +kernel
theorem dX9_feed_50 : decode cX9_feed 50 = .ok (.iadd, 1) := by decide +kernel
theorem dX9_feed_51 : decode cX9_feed 51 = .ok (.lload_n 3, 1) := by decide +kernel
theorem dX9_feed_52 : decode cX9_feed 52 = .ok (.bipush 8, 2) := by decide +kernel
theorem dX9_feed_54 : decode cX9_feed 54 = .ok (.iload_n 2, 1) := by decide +kernel
theorem dX9_feed_55 : decode cX9_feed 55 = .ok (.iconst 1, 1) := by decide +kernel
theorem dX9_feed_56 : decode cX9_feed 56 = .ok (.isub, 1) := by decide +kernel
theorem dX9_feed_57 : decode cX9_feed 57 = .ok (.iload 6, 2) := by decide +kernel
theorem dX9_feed_59 : decode cX9_feed 59 = .ok (.isub, 1) := by decide +kernel
theorem dX9_feed_60 : decode cX9_feed 60 = .ok (.imul, 1) := by decide +kernel
theorem dX9_feed_61 : decode cX9_feed 61 = .ok (.lshr, 1) := by decide +kernel
theorem dX9_feed_62 : decode cX9_feed 62 = .ok (.ldc2_w 102, 3) := by decide +kernel
theorem dX9_feed_65 : decode cX9_feed 65 = .ok (.land, 1) := by decide +kernel
theorem dX9_feed_66 : decode cX9_feed 66 = .ok (.l2i, 1) := by decide +kernel
theorem dX9_feed_67 : decode cX9_feed 67 = .ok (.invokevirtual 98, 3) := by decide +kernel
theorem dX9_feed_70 : decode cX9_feed 70 = .ok (.iadd, 1) := by decide +kernel
theorem dX9_feed_71 : decode cX9_feed 71 = .ok (.istore 5, 2) := by decide +kernel
theorem dX9_feed_73 : decode cX9_feed 73 = .ok (.iinc 6 1, 3) := by decide +kernel
theorem dX9_feed_76 : decode cX9_feed 76 = .ok (.goto (-38), 3) := by decide +kernel
theorem dX9_feed_79 : decode cX9_feed 79 = .ok (.iload 5, 2) := by decide +kernel
theorem dX9_feed_81 : decode cX9_feed 81 = .ok (.ireturn, 1) := by decide +kernel
theorem dX9_peek_0 : decode cX9_peek 0 = .ok (.aload_n 0, 1) := by decide +kernel
theorem dX9_peek_1 : decode cX9_peek 1 = .ok (.aload_n 0, 1) := by decide +kernel
theorem dX9_peek_2 : decode cX9_peek 2 = .ok (.iload_n 1, 1) := by decide +kernel
theorem dX9_peek_3 : decode cX9_peek 3 = .ok (.invokevirtual 94, 3) := by decide +kernel
theorem dX9_peek_6 : decode cX9_peek 6 = .ok (.ifCond .eq 7, 3) := by decide +kernel
theorem dX9_peek_9 : decode cX9_peek 9 = .ok (.iconst 0, 1) := by decide +kernel
theorem dX9_peek_10 : decode cX9_peek 10 = .ok (.goto 4, 3) := by decide +kernel
theorem dX9_peek_13 : decode cX9_peek 13 = .ok (.iconst 1, 1) := by decide +kernel
theorem dX9_peek_14 : decode cX9_peek 14 = .ok (.putfield 77, 3) := by decide +kernel
theorem dX9_peek_17 : decode cX9_peek 17 = .ok (.aload_n 0, 1) := by decide +kernel
theorem dX9_peek_18 : decode cX9_peek 18 = .ok (.getfield 77, 3) := by decide +kernel
theorem dX9_peek_21 : decode cX9_peek 21 = .ok (.ifCond .le 7, 3) := by decide +kernel
theorem dX9_peek_24 : decode cX9_peek 24 = .ok (.iconst 0, 1) := by decide +kernel
theorem dX9_peek_25 : decode cX9_peek 25 = .ok (.goto 9, 3) := by decide +kernel
theorem dX9_peek_28 : decode cX9_peek 28 = .ok (.aload_n 0, 1) := by decide +kernel
theorem dX9_peek_29 : decode cX9_peek 29 = .ok (.getfield 7, 3) := by decide +kernel
theorem dX9_peek_32 : decode cX9_peek 32 = .ok (.iload_n 1, 1) := by decide +kernel
theorem dX9_peek_33 : decode cX9_peek 33 = .ok (.iaload, 1) := by decide +kernel
theorem dX9_peek_34 : decode cX9_peek 34 = .ok (.ireturn, 1) := by decide +kernel
theorem dX9_global_0 : decode cX9_global 0 = .ok (.aload_n 0, 1) := by decide +kernel
theorem dX9_global_1 : decode cX9_global 1 = .ok (.iload_n 1, 1) := by decide +kernel
theorem dX9_global_2 : decode cX9_global 2 = .ok (.ifCond .lt 13, 3) := by decide +kernel
theorem dX9_global_5 : decode cX9_global 5 = .ok (.iload_n 1, 1) := by decide +kernel
theorem dX9_global_6 : decode cX9_global 6 = .ok (.bipush 8, 2) := by decide +kernel
theorem dX9_global_8 : decode cX9_global 8 = .ok (.if_icmp .ge 7, 3) := by decide +kernel
theorem dX9_global_11 : decode cX9_global 11 = .ok (.iconst 0, 1) := by decide +kernel
theorem dX9_global_12 : decode cX9_global 12 = .ok (.goto 4, 3) := by decide +kernel
theorem dX9_global_15 : decode cX9_global 15 = .ok (.iconst 1, 1) := by decide +kernel
theorem dX9_global_16 : decode cX9_global 16 = .ok (.putfield 77, 3) := by decide +kernel
theorem dX9_global_19 : decode cX9_global 19 = .ok (.aload_n 0, 1) := by decide +kernel
theorem dX9_global_20 : decode cX9_global 20 = .ok (.getfield 77, 3) := by decide +kernel
theorem dX9_global_23 : decode cX9_global 23 = .ok (.ifCond .le 5, 3) := by decide +kernel
theorem dX9_global_26 : decode cX9_global 26 = .ok (.iconst 0, 1) := by decide +kernel
theorem dX9_global_27 : decode cX9_global 27 = .ok (.ireturn, 1) := by decide +kernel
theorem dX9_global_28 : decode cX9_global 28 = .ok (.aload_n 0, 1) := by decide +kernel
theorem dX9_global_29 : decode cX9_global 29 = .ok (.getfield 13, 3) := by decide +kernel
theorem dX9_global_32 : decode cX9_global 32 = .ok (.iload_n 1, 1) := by decide +kernel
theorem dX9_global_33 : decode cX9_global 33 = .ok (.iaload, 1) := by decide +kernel
theorem dX9_global_34 : decode cX9_global 34 = .ok (.istore_n 3, 1) := by decide +kernel
theorem dX9_global_35 : decode cX9_global 35 = .ok (.aload_n 0, 1) := by decide +kernel
theorem dX9_global_36 : decode cX9_global 36 = .ok (.getfield 13, 3) := by decide +kernel
theorem dX9_global_39 : decode cX9_global 39 = .ok (.iload_n 1, 1) := by decide +kernel
theorem dX9_global_40 : decode cX9_global 40 = .ok (.iload_n 2, 1) := by decide +kernel
theorem dX9_global_41 : decode cX9_global 41 = .ok (.iastore, 1) := by decide +kernel
theorem dX9_global_42 : decode cX9_global 42 = .ok (.iload_n 3, 1) := by decide +kernel
theorem dX9_global_43 : decode cX9_global 43 = .ok (.ireturn, 1) := by decide +kernel
theorem dX9_nextByte_0 : decode cX9_nextByte 0 = .ok (.aload_n 0, 1) := by decide +kernel
theorem dX9_nextByte_1 : decode cX9_nextByte 1 = .ok (.getfield 104, 3) := by decide +kernel
theorem dX9_nextByte_4 : decode cX9_nextByte 4 = .ok (.sipush 1024, 3) := by decide +kernel
theorem dX9_nextByte_7 : decode cX9_nextByte 7 = .ok (.if_icmp .lt 24, 3) := by decide +kernel
theorem dX9_nextByte_10 : decode cX9_nextByte 10 = .ok (.aload_n 0, 1) := by decide +kernel
theorem dX9_nextByte_11 : decode cX9_nextByte 11 = .ok (.aload_n 0, 1) := by decide +kernel
theorem dX9_nextByte_12 : decode cX9_nextByte 12 = .ok (.getfield 107, 3) := by decide +kernel
theorem dX9_nextByte_15 : decode cX9_nextByte 15 = .ok (.ifCond .ne 7, 3) := by decide +kernel
theorem dX9_nextByte_18 : decode cX9_nextByte 18 = .ok (.iconst 1, 1) := by decide +kernel
theorem dX9_nextByte_19 : decode cX9_nextByte 19 = .ok (.goto 7, 3) := by decide +kernel
theorem dX9_nextByte_22 : decode cX9_nextByte 22 = .ok (.aload_n 0, 1) := by decide +kernel
theorem dX9_nextByte_23 : decode cX9_nextByte 23 = .ok (.getfield 107, 3) := by decide +kernel
theorem dX9_nextByte_26 : decode cX9_nextByte 26 = .ok (.putfield 107, 3) := by decide +kernel
theorem dX9_nextByte_29 : decode cX9_nextByte 29 = .ok (.iconst 0, 1) := by decide +kernel
theorem dX9_nextByte_30 : decode cX9_nextByte 30 = .ok (.ireturn, 1) := by decide +kernel
theorem dX9_nextByte_31 : decode cX9_nextByte 31 = .ok (.aload_n 0, 1) := by decide +kernel
theorem dX9_nextByte_32 : decode cX9_nextByte 32 = .ok (.dup, 1) := by decide +kernel
theorem dX9_nextByte_33 : decode cX9_nextByte 33 = .ok (.getfield 104, 3) := by decide +kernel
theorem dX9_nextByte_36 : decode cX9_nextByte 36 = .ok (.iconst 1, 1) := by decide +kernel
theorem dX9_nextByte_37 : decode cX9_nextByte 37 = .ok (.iadd, 1) := by decide +kernel
theorem dX9_nextByte_38 : decode cX9_nextByte 38 = .ok (.putfield 104, 3) := by decide +kernel
theorem dX9_nextByte_41 : decode cX9_nextByte 41 = .ok (.aload_n 0, 1) := by decide +kernel
theorem dX9_nextByte_42 : decode cX9_nextByte 42 = .ok (.getfield 7, 3) := by decide +kernel
theorem dX9_nextByte_45 : decode cX9_nextByte 45 = .ok (.aload_n 0, 1) := by decide +kernel
theorem dX9_nextByte_46 : decode cX9_nextByte 46 = .ok (.getfield 104, 3) := by decide +kernel
theorem dX9_nextByte_49 : decode cX9_nextByte 49 = .ok (.iconst 1, 1) := by decide +kernel
theorem dX9_nextByte_50 : decode cX9_nextByte 50 = .ok (.isub, 1) := by decide +kernel
theorem dX9_nextByte_51 : decode cX9_nextByte 51 = .ok (.iaload, 1) := by decide +kernel
theorem dX9_nextByte_52 : decode cX9_nextByte 52 = .ok (.ireturn, 1) := by decide +kernel
theorem dX9_bad_0 : decode cX9_bad 0 = .ok (.aload_n 0, 1) := by decide +kernel
theorem dX9_bad_1 : decode cX9_bad 1 = .ok (.iload_n 1, 1) := by decide +kernel
theorem dX9_bad_2 : decode cX9_bad 2 = .ok (.ifCond .eq 15, 3) := by decide +kernel
theorem dX9_bad_5 : decode cX9_bad 5 = .ok (.aload_n 0, 1) := by decide +kernel
theorem dX9_bad_6 : decode cX9_bad 6 = .ok (.getfield 107, 3) := by decide +kernel
theorem dX9_bad_9 : decode cX9_bad 9 = .ok (.ifCond .ne 8, 3) := by decide +kernel
theorem dX9_bad_12 : decode cX9_bad 12 = .ok (.bipush 7, 2) := by decide +kernel
theorem dX9_bad_14 : decode cX9_bad 14 = .ok (.goto 7, 3) := by decide +kernel
theorem dX9_bad_17 : decode cX9_bad 17 = .ok (.aload_n 0, 1) := by decide +kernel
theorem dX9_bad_18 : decode cX9_bad 18 = .ok (.getfield 107, 3) := by decide +kernel
theorem dX9_bad_21 : decode cX9_bad 21 = .ok (.putfield 107, 3) := by decide +kernel
theorem dX9_bad_24 : decode cX9_bad 24 = .ok (.return_, 1) := by decide +kernel
theorem dX9_isCell_0 : decode cX9_isCell 0 = .ok (.iload_n 1, 1) := by decide +kernel
theorem dX9_isCell_1 : decode cX9_isCell 1 = .ok (.sipush 128, 3) := by decide +kernel
theorem dX9_isCell_4 : decode cX9_isCell 4 = .ok (.if_icmp .lt 15, 3) := by decide +kernel
theorem dX9_isCell_7 : decode cX9_isCell 7 = .ok (.iload_n 1, 1) := by decide +kernel
theorem dX9_isCell_8 : decode cX9_isCell 8 = .ok (.sipush 128, 3) := by decide +kernel
theorem dX9_isCell_11 : decode cX9_isCell 11 = .ok (.aload_n 0, 1) := by decide +kernel
theorem dX9_isCell_12 : decode cX9_isCell 12 = .ok (.getfield 110, 3) := by decide +kernel
theorem dX9_isCell_15 : decode cX9_isCell 15 = .ok (.iadd, 1) := by decide +kernel
theorem dX9_isCell_16 : decode cX9_isCell 16 = .ok (.if_icmp .lt 17, 3) := by decide +kernel
theorem dX9_isCell_19 : decode cX9_isCell 19 = .ok (.iload_n 1, 1) := by decide +kernel
theorem dX9_isCell_20 : decode cX9_isCell 20 = .ok (.sipush 136, 3) := by decide +kernel
theorem dX9_isCell_23 : decode cX9_isCell 23 = .ok (.if_icmp .lt 14, 3) := by decide +kernel
theorem dX9_isCell_26 : decode cX9_isCell 26 = .ok (.iload_n 1, 1) := by decide +kernel
theorem dX9_isCell_27 : decode cX9_isCell 27 = .ok (.sipush 144, 3) := by decide +kernel
theorem dX9_isCell_30 : decode cX9_isCell 30 = .ok (.if_icmp .ge 7, 3) := by decide +kernel
theorem dX9_isCell_33 : decode cX9_isCell 33 = .ok (.iconst 1, 1) := by decide +kernel
theorem dX9_isCell_34 : decode cX9_isCell 34 = .ok (.goto 4, 3) := by decide +kernel
theorem dX9_isCell_37 : decode cX9_isCell 37 = .ok (.iconst 0, 1) := by decide +kernel
theorem dX9_isCell_38 : decode cX9_isCell 38 = .ok (.ireturn, 1) := by decide +kernel
theorem dX9_operandOf_0 : decode cX9_operandOf 0 = .ok (.aload_n 0, 1) := by decide +kernel
theorem dX9_operandOf_1 : decode cX9_operandOf 1 = .ok (.getfield 107, 3) := by decide +kernel
theorem dX9_operandOf_4 : decode cX9_operandOf 4 = .ok (.ifCond .eq 4, 3) := by decide +kernel
theorem dX9_operandOf_7 : decode cX9_operandOf 7 = .ok (.return_, 1) := by decide +kernel
theorem dX9_operandOf_8 : decode cX9_operandOf 8 = .ok (.aload_n 0, 1) := by decide +kernel
theorem dX9_operandOf_9 : decode cX9_operandOf 9 = .ok (.invokevirtual 113, 3) := by decide +kernel
theorem dX9_operandOf_12 : decode cX9_operandOf 12 = .ok (.istore_n 2, 1) := by decide +kernel
theorem dX9_operandOf_13 : decode cX9_operandOf 13 = .ok (.aload_n 0, 1) := by decide +kernel
theorem dX9_operandOf_14 : decode cX9_operandOf 14 = .ok (.getfield 107, 3) := by decide +kernel
theorem dX9_operandOf_17 : decode cX9_operandOf 17 = .ok (.ifCond .ne 74, 3) := by decide +kernel
theorem dX9_operandOf_20 : decode cX9_operandOf 20 = .ok (.aload_n 0, 1) := by decide +kernel
theorem dX9_operandOf_21 : decode cX9_operandOf 21 = .ok (.iload_n 1, 1) := by decide +kernel
theorem dX9_operandOf_22 : decode cX9_operandOf 22 = .ok (.ifCond .ne 18, 3) := by decide +kernel
theorem dX9_operandOf_25 : decode cX9_operandOf 25 = .ok (.iload_n 2, 1) := by decide +kernel
theorem dX9_operandOf_26 : decode cX9_operandOf 26 = .ok (.sipush 128, 3) := by decide +kernel
theorem dX9_operandOf_29 : decode cX9_operandOf 29 = .ok (.if_icmp .lt 11, 3) := by decide +kernel
theorem dX9_operandOf_32 : decode cX9_operandOf 32 = .ok (.aload_n 0, 1) := by decide +kernel
theorem dX9_operandOf_33 : decode cX9_operandOf 33 = .ok (.iload_n 2, 1) := by decide +kernel
theorem dX9_operandOf_34 : decode cX9_operandOf 34 = .ok (.invokevirtual 117, 3) := by decide +kernel
theorem dX9_operandOf_37 : decode cX9_operandOf 37 = .ok (.ifCond .eq 26, 3) := by decide +kernel
theorem dX9_operandOf_40 : decode cX9_operandOf 40 = .ok (.iload_n 1, 1) := by decide +kernel
theorem dX9_operandOf_41 : decode cX9_operandOf 41 = .ok (.iconst 1, 1) := by decide +kernel
theorem dX9_operandOf_42 : decode cX9_operandOf 42 = .ok (.if_icmp .ne 11, 3) := by decide +kernel
theorem dX9_operandOf_45 : decode cX9_operandOf 45 = .ok (.aload_n 0, 1) := by decide +kernel
theorem dX9_operandOf_46 : decode cX9_operandOf 46 = .ok (.iload_n 2, 1) := by decide +kernel
theorem dX9_operandOf_47 : decode cX9_operandOf 47 = .ok (.invokevirtual 117, 3) := by decide +kernel
theorem dX9_operandOf_50 : decode cX9_operandOf 50 = .ok (.ifCond .eq 13, 3) := by decide +kernel
theorem dX9_operandOf_53 : decode cX9_operandOf 53 = .ok (.iload_n 1, 1) := by decide +kernel
theorem dX9_operandOf_54 : decode cX9_operandOf 54 = .ok (.iconst 3, 1) := by decide +kernel
theorem dX9_operandOf_55 : decode cX9_operandOf 55 = .ok (.if_icmp .ne 12, 3) := by decide +kernel
theorem dX9_operandOf_58 : decode cX9_operandOf 58 = .ok (.iload_n 2, 1) := by decide +kernel
theorem dX9_operandOf_59 : decode cX9_operandOf 59 = .ok (.iconst 4, 1) := by decide +kernel
theorem dX9_operandOf_60 : decode cX9_operandOf 60 = .ok (.if_icmp .le 7, 3) := by decide +kernel
theorem dX9_operandOf_63 : decode cX9_operandOf 63 = .ok (.iconst 1, 1) := by decide +kernel
theorem dX9_operandOf_64 : decode cX9_operandOf 64 = .ok (.goto 4, 3) := by decide +kernel
theorem dX9_operandOf_67 : decode cX9_operandOf 67 = .ok (.iconst 0, 1) := by decide +kernel
theorem dX9_operandOf_68 : decode cX9_operandOf 68 = .ok (.invokevirtual 120, 3) := by decide +kernel
theorem dX9_operandOf_71 : decode cX9_operandOf 71 = .ok (.aload_n 0, 1) := by decide +kernel
theorem dX9_operandOf_72 : decode cX9_operandOf 72 = .ok (.getfield 35, 3) := by decide +kernel
theorem dX9_operandOf_75 : decode cX9_operandOf 75 = .ok (.aload_n 0, 1) := by decide +kernel
theorem dX9_operandOf_76 : decode cX9_operandOf 76 = .ok (.getfield 124, 3) := by decide +kernel
theorem dX9_operandOf_79 : decode cX9_operandOf 79 = .ok (.iload_n 2, 1) := by decide +kernel
theorem dX9_operandOf_80 : decode cX9_operandOf 80 = .ok (.iastore, 1) := by decide +kernel
theorem dX9_operandOf_81 : decode cX9_operandOf 81 = .ok (.aload_n 0, 1) := by decide +kernel
theorem dX9_operandOf_82 : decode cX9_operandOf 82 = .ok (.dup, 1) := by decide +kernel
theorem dX9_operandOf_83 : decode cX9_operandOf 83 = .ok (.getfield 124, 3) := by decide +kernel
theorem dX9_operandOf_86 : decode cX9_operandOf 86 = .ok (.iconst 1, 1) := by decide +kernel
theorem dX9_operandOf_87 : decode cX9_operandOf 87 = .ok (.iadd, 1) := by decide +kernel
theorem dX9_operandOf_88 : decode cX9_operandOf 88 = .ok (.putfield 124, 3) := by decide +kernel
theorem dX9_operandOf_91 : decode cX9_operandOf 91 = .ok (.return_, 1) := by decide +kernel
theorem dX9_readAt_0 : decode cX9_readAt 0 = .ok (.aload_n 0, 1) := by decide +kernel
theorem dX9_readAt_1 : decode cX9_readAt 1 = .ok (.iload_n 1, 1) := by decide +kernel
theorem dX9_readAt_2 : decode cX9_readAt 2 = .ok (.putfield 104, 3) := by decide +kernel
theorem dX9_readAt_5 : decode cX9_readAt 5 = .ok (.aload_n 0, 1) := by decide +kernel
theorem dX9_readAt_6 : decode cX9_readAt 6 = .ok (.iconst 0, 1) := by decide +kernel
theorem dX9_readAt_7 : decode cX9_readAt 7 = .ok (.putfield 107, 3) := by decide +kernel
theorem dX9_readAt_10 : decode cX9_readAt 10 = .ok (.aload_n 0, 1) := by decide +kernel
theorem dX9_readAt_11 : decode cX9_readAt 11 = .ok (.iconst 0, 1) := by decide +kernel
theorem dX9_readAt_12 : decode cX9_readAt 12 = .ok (.putfield 124, 3) := by decide +kernel
theorem dX9_readAt_15 : decode cX9_readAt 15 = .ok (.aload_n 0, 1) := by decide +kernel
theorem dX9_readAt_16 : decode cX9_readAt 16 = .ok (.iload_n 2, 1) := by decide +kernel
theorem dX9_readAt_17 : decode cX9_readAt 17 = .ok (.putfield 110, 3) := by decide +kernel
theorem dX9_readAt_20 : decode cX9_readAt 20 = .ok (.aload_n 0, 1) := by decide +kernel
theorem dX9_readAt_21 : decode cX9_readAt 21 = .ok (.aload_n 0, 1) := by decide +kernel
theorem dX9_readAt_22 : decode cX9_readAt 22 = .ok (.invokevirtual 113, 3) := by decide +kernel
theorem dX9_readAt_25 : decode cX9_readAt 25 = .ok (.putfield 127, 3) := by decide +kernel
theorem dX9_readAt_28 : decode cX9_readAt 28 = .ok (.aload_n 0, 1) := by decide +kernel
theorem dX9_readAt_29 : decode cX9_readAt 29 = .ok (.getfield 107, 3) := by decide +kernel
theorem dX9_readAt_32 : decode cX9_readAt 32 = .ok (.ifCond .ne 21, 3) := by decide +kernel
theorem dX9_readAt_35 : decode cX9_readAt 35 = .ok (.aload_n 0, 1) := by decide +kernel
theorem dX9_readAt_36 : decode cX9_readAt 36 = .ok (.aload_n 0, 1) := by decide +kernel
theorem dX9_readAt_37 : decode cX9_readAt 37 = .ok (.getfield 127, 3) := by decide +kernel
theorem dX9_readAt_40 : decode cX9_readAt 40 = .ok (.bipush 15, 2) := by decide +kernel
theorem dX9_readAt_42 : decode cX9_readAt 42 = .ok (.if_icmp .le 7, 3) := by decide +kernel
theorem dX9_readAt_45 : decode cX9_readAt 45 = .ok (.iconst 1, 1) := by decide +kernel
theorem dX9_readAt_46 : decode cX9_readAt 46 = .ok (.goto 4, 3) := by decide +kernel
theorem dX9_readAt_49 : decode cX9_readAt 49 = .ok (.iconst 0, 1) := by decide +kernel
theorem dX9_readAt_50 : decode cX9_readAt 50 = .ok (.invokevirtual 120, 3) := by decide +kernel
theorem dX9_readAt_53 : decode cX9_readAt 53 = .ok (.aload_n 0, 1) := by decide +kernel
theorem dX9_readAt_54 : decode cX9_readAt 54 = .ok (.getfield 127, 3) := by decide +kernel
theorem dX9_readAt_57 : decode cX9_readAt 57 = .ok (.iconst 1, 1) := by decide +kernel
theorem dX9_readAt_58 : decode cX9_readAt 58 = .ok (.if_icmp .lt 12, 3) := by decide +kernel
theorem dX9_readAt_61 : decode cX9_readAt 61 = .ok (.aload_n 0, 1) := by decide +kernel
theorem dX9_readAt_62 : decode cX9_readAt 62 = .ok (.getfield 127, 3) := by decide +kernel
theorem dX9_readAt_65 : decode cX9_readAt 65 = .ok (.bipush 7, 2) := by decide +kernel
theorem dX9_readAt_67 : decode cX9_readAt 67 = .ok (.if_icmp .le 12, 3) := by decide +kernel
theorem dX9_readAt_70 : decode cX9_readAt 70 = .ok (.aload_n 0, 1) := by decide +kernel
theorem dX9_readAt_71 : decode cX9_readAt 71 = .ok (.getfield 127, 3) := by decide +kernel
theorem dX9_readAt_74 : decode cX9_readAt 74 = .ok (.bipush 12, 2) := by decide +kernel
theorem dX9_readAt_76 : decode cX9_readAt 76 = .ok (.if_icmp .ne 7, 3) := by decide +kernel
theorem dX9_readAt_79 : decode cX9_readAt 79 = .ok (.iconst 1, 1) := by decide +kernel
theorem dX9_readAt_80 : decode cX9_readAt 80 = .ok (.goto 4, 3) := by decide +kernel
theorem dX9_readAt_83 : decode cX9_readAt 83 = .ok (.iconst 0, 1) := by decide +kernel
theorem dX9_readAt_84 : decode cX9_readAt 84 = .ok (.istore_n 3, 1) := by decide +kernel
theorem dX9_readAt_85 : decode cX9_readAt 85 = .ok (.aload_n 0, 1) := by decide +kernel
theorem dX9_readAt_86 : decode cX9_readAt 86 = .ok (.getfield 127, 3) := by decide +kernel
theorem dX9_readAt_89 : decode cX9_readAt 89 = .ok (.iconst 1, 1) := by decide +kernel
theorem dX9_readAt_90 : decode cX9_readAt 90 = .ok (.if_icmp .le 12, 3) := by decide +kernel
theorem dX9_readAt_93 : decode cX9_readAt 93 = .ok (.aload_n 0, 1) := by decide +kernel
theorem dX9_readAt_94 : decode cX9_readAt 94 = .ok (.getfield 127, 3) := by decide +kernel
theorem dX9_readAt_97 : decode cX9_readAt 97 = .ok (.bipush 7, 2) := by decide +kernel
theorem dX9_readAt_99 : decode cX9_readAt 99 = .ok (.if_icmp .lt 30, 3) := by decide +kernel
theorem dX9_readAt_102 : decode cX9_readAt 102 = .ok (.aload_n 0, 1) := by decide +kernel
theorem dX9_readAt_103 : decode cX9_readAt 103 = .ok (.getfield 127, 3) := by decide +kernel
theorem dX9_readAt_106 : decode cX9_readAt 106 = .ok (.bipush 8, 2) := by decide +kernel
theorem dX9_readAt_108 : decode cX9_readAt 108 = .ok (.if_icmp .eq 21, 3) := by decide +kernel
theorem dX9_readAt_111 : decode cX9_readAt 111 = .ok (.aload_n 0, 1) := by decide +kernel
theorem dX9_readAt_112 : decode cX9_readAt 112 = .ok (.getfield 127, 3) := by decide +kernel
theorem dX9_readAt_115 : decode cX9_readAt 115 = .ok (.bipush 10, 2) := by decide +kernel
theorem dX9_readAt_117 : decode cX9_readAt 117 = .ok (.if_icmp .eq 12, 3) := by decide +kernel
theorem dX9_readAt_120 : decode cX9_readAt 120 = .ok (.aload_n 0, 1) := by decide +kernel
theorem dX9_readAt_121 : decode cX9_readAt 121 = .ok (.getfield 127, 3) := by decide +kernel
theorem dX9_readAt_124 : decode cX9_readAt 124 = .ok (.bipush 11, 2) := by decide +kernel
theorem dX9_readAt_126 : decode cX9_readAt 126 = .ok (.if_icmp .ne 7, 3) := by decide +kernel
theorem dX9_readAt_129 : decode cX9_readAt 129 = .ok (.iconst 1, 1) := by decide +kernel
theorem dX9_readAt_130 : decode cX9_readAt 130 = .ok (.goto 4, 3) := by decide +kernel
theorem dX9_readAt_133 : decode cX9_readAt 133 = .ok (.iconst 0, 1) := by decide +kernel
theorem dX9_readAt_134 : decode cX9_readAt 134 = .ok (.istore 4, 2) := by decide +kernel
theorem dX9_readAt_136 : decode cX9_readAt 136 = .ok (.iload_n 3, 1) := by decide +kernel
theorem dX9_readAt_137 : decode cX9_readAt 137 = .ok (.ifCond .eq 8, 3) := by decide +kernel
theorem dX9_readAt_140 : decode cX9_readAt 140 = .ok (.aload_n 0, 1) := by decide +kernel
theorem dX9_readAt_141 : decode cX9_readAt 141 = .ok (.iconst 1, 1) := by decide +kernel
theorem dX9_readAt_142 : decode cX9_readAt 142 = .ok (.invokevirtual 130, 3) := by decide +kernel
theorem dX9_readAt_145 : decode cX9_readAt 145 = .ok (.aload_n 0, 1) := by decide +kernel
theorem dX9_readAt_146 : decode cX9_readAt 146 = .ok (.getfield 127, 3) := by decide +kernel
theorem dX9_readAt_149 : decode cX9_readAt 149 = .ok (.bipush 8, 2) := by decide +kernel
theorem dX9_readAt_151 : decode cX9_readAt 151 = .ok (.if_icmp .le 39, 3) := by decide +kernel
theorem dX9_readAt_154 : decode cX9_readAt 154 = .ok (.aload_n 0, 1) := by decide +kernel
theorem dX9_readAt_155 : decode cX9_readAt 155 = .ok (.getfield 127, 3) := by decide +kernel
theorem dX9_readAt_158 : decode cX9_readAt 158 = .ok (.bipush 10, 2) := by decide +kernel
theorem dX9_readAt_160 : decode cX9_readAt 160 = .ok (.if_icmp .eq 30, 3) := by decide +kernel
theorem dX9_readAt_163 : decode cX9_readAt 163 = .ok (.aload_n 0, 1) := by decide +kernel
theorem dX9_readAt_164 : decode cX9_readAt 164 = .ok (.getfield 127, 3) := by decide +kernel
theorem dX9_readAt_167 : decode cX9_readAt 167 = .ok (.bipush 11, 2) := by decide +kernel
theorem dX9_readAt_169 : decode cX9_readAt 169 = .ok (.if_icmp .eq 21, 3) := by decide +kernel
theorem dX9_readAt_172 : decode cX9_readAt 172 = .ok (.aload_n 0, 1) := by decide +kernel
theorem dX9_readAt_173 : decode cX9_readAt 173 = .ok (.getfield 127, 3) := by decide +kernel
theorem dX9_readAt_176 : decode cX9_readAt 176 = .ok (.bipush 12, 2) := by decide +kernel
theorem dX9_readAt_178 : decode cX9_readAt 178 = .ok (.if_icmp .eq 12, 3) := by decide +kernel
theorem dX9_readAt_181 : decode cX9_readAt 181 = .ok (.aload_n 0, 1) := by decide +kernel
theorem dX9_readAt_182 : decode cX9_readAt 182 = .ok (.getfield 127, 3) := by decide +kernel
theorem dX9_readAt_185 : decode cX9_readAt 185 = .ok (.bipush 13, 2) := by decide +kernel
theorem dX9_readAt_187 : decode cX9_readAt 187 = .ok (.if_icmp .ne 8, 3) := by decide +kernel
theorem dX9_readAt_190 : decode cX9_readAt 190 = .ok (.aload_n 0, 1) := by decide +kernel
theorem dX9_readAt_191 : decode cX9_readAt 191 = .ok (.iconst 0, 1) := by decide +kernel
theorem dX9_readAt_192 : decode cX9_readAt 192 = .ok (.invokevirtual 130, 3) := by decide +kernel
theorem dX9_readAt_195 : decode cX9_readAt 195 = .ok (.iload 4, 2) := by decide +kernel
theorem dX9_readAt_197 : decode cX9_readAt 197 = .ok (.ifCond .eq 8, 3) := by decide +kernel
theorem dX9_readAt_200 : decode cX9_readAt 200 = .ok (.aload_n 0, 1) := by decide +kernel
theorem dX9_readAt_201 : decode cX9_readAt 201 = .ok (.iconst 0, 1) := by decide +kernel
theorem dX9_readAt_202 : decode cX9_readAt 202 = .ok (.invokevirtual 130, 3) := by decide +kernel
theorem dX9_readAt_205 : decode cX9_readAt 205 = .ok (.aload_n 0, 1) := by decide +kernel
theorem dX9_readAt_206 : decode cX9_readAt 206 = .ok (.getfield 127, 3) := by decide +kernel
theorem dX9_readAt_209 : decode cX9_readAt 209 = .ok (.bipush 9, 2) := by decide +kernel
theorem dX9_readAt_211 : decode cX9_readAt 211 = .ok (.if_icmp .eq 30, 3) := by decide +kernel
theorem dX9_readAt_214 : decode cX9_readAt 214 = .ok (.aload_n 0, 1) := by decide +kernel
theorem dX9_readAt_215 : decode cX9_readAt 215 = .ok (.getfield 127, 3) := by decide +kernel
theorem dX9_readAt_218 : decode cX9_readAt 218 = .ok (.bipush 10, 2) := by decide +kernel
theorem dX9_readAt_220 : decode cX9_readAt 220 = .ok (.if_icmp .eq 21, 3) := by decide +kernel
theorem dX9_readAt_223 : decode cX9_readAt 223 = .ok (.aload_n 0, 1) := by decide +kernel
theorem dX9_readAt_224 : decode cX9_readAt 224 = .ok (.getfield 127, 3) := by decide +kernel
theorem dX9_readAt_227 : decode cX9_readAt 227 = .ok (.bipush 11, 2) := by decide +kernel
theorem dX9_readAt_229 : decode cX9_readAt 229 = .ok (.if_icmp .eq 12, 3) := by decide +kernel
theorem dX9_readAt_232 : decode cX9_readAt 232 = .ok (.aload_n 0, 1) := by decide +kernel
theorem dX9_readAt_233 : decode cX9_readAt 233 = .ok (.getfield 127, 3) := by decide +kernel
theorem dX9_readAt_236 : decode cX9_readAt 236 = .ok (.bipush 14, 2) := by decide +kernel
theorem dX9_readAt_238 : decode cX9_readAt 238 = .ok (.if_icmp .ne 8, 3) := by decide +kernel
theorem dX9_readAt_241 : decode cX9_readAt 241 = .ok (.aload_n 0, 1) := by decide +kernel
theorem dX9_readAt_242 : decode cX9_readAt 242 = .ok (.iconst 2, 1) := by decide +kernel
theorem dX9_readAt_243 : decode cX9_readAt 243 = .ok (.invokevirtual 130, 3) := by decide +kernel
theorem dX9_readAt_246 : decode cX9_readAt 246 = .ok (.aload_n 0, 1) := by decide +kernel
theorem dX9_readAt_247 : decode cX9_readAt 247 = .ok (.getfield 127, 3) := by decide +kernel
theorem dX9_readAt_250 : decode cX9_readAt 250 = .ok (.bipush 12, 2) := by decide +kernel
theorem dX9_readAt_252 : decode cX9_readAt 252 = .ok (.if_icmp .ne 48, 3) := by decide +kernel
theorem dX9_readAt_255 : decode cX9_readAt 255 = .ok (.aload_n 0, 1) := by decide +kernel
theorem dX9_readAt_256 : decode cX9_readAt 256 = .ok (.iconst 3, 1) := by decide +kernel
theorem dX9_readAt_257 : decode cX9_readAt 257 = .ok (.invokevirtual 130, 3) := by decide +kernel
theorem dX9_readAt_260 : decode cX9_readAt 260 = .ok (.aload_n 0, 1) := by decide +kernel
theorem dX9_readAt_261 : decode cX9_readAt 261 = .ok (.getfield 107, 3) := by decide +kernel
theorem dX9_readAt_264 : decode cX9_readAt 264 = .ok (.ifCond .ne 12, 3) := by decide +kernel
theorem dX9_readAt_267 : decode cX9_readAt 267 = .ok (.aload_n 0, 1) := by decide +kernel
theorem dX9_readAt_268 : decode cX9_readAt 268 = .ok (.getfield 35, 3) := by decide +kernel
theorem dX9_readAt_271 : decode cX9_readAt 271 = .ok (.iconst 2, 1) := by decide +kernel
theorem dX9_readAt_272 : decode cX9_readAt 272 = .ok (.iaload, 1) := by decide +kernel
theorem dX9_readAt_273 : decode cX9_readAt 273 = .ok (.goto 4, 3) := by decide +kernel
theorem dX9_readAt_276 : decode cX9_readAt 276 = .ok (.iconst 0, 1) := by decide +kernel
theorem dX9_readAt_277 : decode cX9_readAt 277 = .ok (.istore 5, 2) := by decide +kernel
theorem dX9_readAt_279 : decode cX9_readAt 279 = .ok (.iconst 0, 1) := by decide +kernel
theorem dX9_readAt_280 : decode cX9_readAt 280 = .ok (.istore 6, 2) := by decide +kernel
theorem dX9_readAt_282 : decode cX9_readAt 282 = .ok (.iload 6, 2) := by decide +kernel
theorem dX9_readAt_284 : decode cX9_readAt 284 = .ok (.iload 5, 2) := by decide +kernel
theorem dX9_readAt_286 : decode cX9_readAt 286 = .ok (.if_icmp .ge 14, 3) := by decide +kernel
theorem dX9_readAt_289 : decode cX9_readAt 289 = .ok (.aload_n 0, 1) := by decide +kernel
theorem dX9_readAt_290 : decode cX9_readAt 290 = .ok (.iconst 0, 1) := by decide +kernel
theorem dX9_readAt_291 : decode cX9_readAt 291 = .ok (.invokevirtual 130, 3) := by decide +kernel
theorem dX9_readAt_294 : decode cX9_readAt 294 = .ok (.iinc 6 1, 3) := by decide +kernel
theorem dX9_readAt_297 : decode cX9_readAt 297 = .ok (.goto (-15), 3) := by decide +kernel
theorem dX9_readAt_300 : decode cX9_readAt 300 = .ok (.return_, 1) := by decide +kernel
theorem dX9_failsAt_0 : decode cX9_failsAt 0 = .ok (.aload_n 0, 1) := by decide +kernel
theorem dX9_failsAt_1 : decode cX9_failsAt 1 = .ok (.iconst 0, 1) := by decide +kernel
theorem dX9_failsAt_2 : decode cX9_failsAt 2 = .ok (.putfield 133, 3) := by decide +kernel
theorem dX9_failsAt_5 : decode cX9_failsAt 5 = .ok (.iload_n 1, 1) := by decide +kernel
theorem dX9_failsAt_6 : decode cX9_failsAt 6 = .ok (.iconst 1, 1) := by decide +kernel
theorem dX9_failsAt_7 : decode cX9_failsAt 7 = .ok (.iadd, 1) := by decide +kernel
theorem dX9_failsAt_8 : decode cX9_failsAt 8 = .ok (.istore_n 2, 1) := by decide +kernel
theorem dX9_failsAt_9 : decode cX9_failsAt 9 = .ok (.iconst 0, 1) := by decide +kernel
theorem dX9_failsAt_10 : decode cX9_failsAt 10 = .ok (.istore_n 3, 1) := by decide +kernel
theorem dX9_failsAt_11 : decode cX9_failsAt 11 = .ok (.iload_n 3, 1) := by decide +kernel
theorem dX9_failsAt_12 : decode cX9_failsAt 12 = .ok (.ifCond .ne 160, 3) := by decide +kernel
theorem dX9_failsAt_15 : decode cX9_failsAt 15 = .ok (.aload_n 0, 1) := by decide +kernel
theorem dX9_failsAt_16 : decode cX9_failsAt 16 = .ok (.iload_n 2, 1) := by decide +kernel
theorem dX9_failsAt_17 : decode cX9_failsAt 17 = .ok (.aload_n 0, 1) := by decide +kernel
theorem dX9_failsAt_18 : decode cX9_failsAt 18 = .ok (.getfield 7, 3) := by decide +kernel
theorem dX9_failsAt_21 : decode cX9_failsAt 21 = .ok (.iload_n 1, 1) := by decide +kernel
theorem dX9_failsAt_22 : decode cX9_failsAt 22 = .ok (.iaload, 1) := by decide +kernel
theorem dX9_failsAt_23 : decode cX9_failsAt 23 = .ok (.invokevirtual 136, 3) := by decide +kernel
theorem dX9_failsAt_26 : decode cX9_failsAt 26 = .ok (.aload_n 0, 1) := by decide +kernel
theorem dX9_failsAt_27 : decode cX9_failsAt 27 = .ok (.getfield 107, 3) := by decide +kernel
theorem dX9_failsAt_30 : decode cX9_failsAt 30 = .ok (.ifCond .ne 12, 3) := by decide +kernel
theorem dX9_failsAt_33 : decode cX9_failsAt 33 = .ok (.aload_n 0, 1) := by decide +kernel
theorem dX9_failsAt_34 : decode cX9_failsAt 34 = .ok (.getfield 133, 3) := by decide +kernel
theorem dX9_failsAt_37 : decode cX9_failsAt 37 = .ok (.bipush 60, 2) := by decide +kernel
theorem dX9_failsAt_39 : decode cX9_failsAt 39 = .ok (.if_icmp .ne 7, 3) := by decide +kernel
theorem dX9_failsAt_42 : decode cX9_failsAt 42 = .ok (.iload_n 2, 1) := by decide +kernel
theorem dX9_failsAt_43 : decode cX9_failsAt 43 = .ok (.iload_n 1, 1) := by decide +kernel
theorem dX9_failsAt_44 : decode cX9_failsAt 44 = .ok (.isub, 1) := by decide +kernel
theorem dX9_failsAt_45 : decode cX9_failsAt 45 = .ok (.ireturn, 1) := by decide +kernel
theorem dX9_failsAt_46 : decode cX9_failsAt 46 = .ok (.aload_n 0, 1) := by decide +kernel
theorem dX9_failsAt_47 : decode cX9_failsAt 47 = .ok (.getfield 38, 3) := by decide +kernel
theorem dX9_failsAt_50 : decode cX9_failsAt 50 = .ok (.aload_n 0, 1) := by decide +kernel
theorem dX9_failsAt_51 : decode cX9_failsAt 51 = .ok (.getfield 133, 3) := by decide +kernel
theorem dX9_failsAt_54 : decode cX9_failsAt 54 = .ok (.iload_n 2, 1) := by decide +kernel
theorem dX9_failsAt_55 : decode cX9_failsAt 55 = .ok (.iload_n 1, 1) := by decide +kernel
theorem dX9_failsAt_56 : decode cX9_failsAt 56 = .ok (.isub, 1) := by decide +kernel
theorem dX9_failsAt_57 : decode cX9_failsAt 57 = .ok (.iastore, 1) := by decide +kernel
theorem dX9_failsAt_58 : decode cX9_failsAt 58 = .ok (.aload_n 0, 1) := by decide +kernel
theorem dX9_failsAt_59 : decode cX9_failsAt 59 = .ok (.getfield 127, 3) := by decide +kernel
theorem dX9_failsAt_62 : decode cX9_failsAt 62 = .ok (.bipush 9, 2) := by decide +kernel
theorem dX9_failsAt_64 : decode cX9_failsAt 64 = .ok (.if_icmp .eq 39, 3) := by decide +kernel
theorem dX9_failsAt_67 : decode cX9_failsAt 67 = .ok (.aload_n 0, 1) := by decide +kernel
theorem dX9_failsAt_68 : decode cX9_failsAt 68 = .ok (.getfield 127, 3) := by decide +kernel
theorem dX9_failsAt_71 : decode cX9_failsAt 71 = .ok (.bipush 10, 2) := by decide +kernel
theorem dX9_failsAt_73 : decode cX9_failsAt 73 = .ok (.if_icmp .eq 30, 3) := by decide +kernel
theorem dX9_failsAt_76 : decode cX9_failsAt 76 = .ok (.aload_n 0, 1) := by decide +kernel
theorem dX9_failsAt_77 : decode cX9_failsAt 77 = .ok (.getfield 127, 3) := by decide +kernel
theorem dX9_failsAt_80 : decode cX9_failsAt 80 = .ok (.bipush 11, 2) := by decide +kernel
theorem dX9_failsAt_82 : decode cX9_failsAt 82 = .ok (.if_icmp .eq 21, 3) := by decide +kernel
theorem dX9_failsAt_85 : decode cX9_failsAt 85 = .ok (.aload_n 0, 1) := by decide +kernel
theorem dX9_failsAt_86 : decode cX9_failsAt 86 = .ok (.getfield 127, 3) := by decide +kernel
theorem dX9_failsAt_89 : decode cX9_failsAt 89 = .ok (.bipush 14, 2) := by decide +kernel
theorem dX9_failsAt_91 : decode cX9_failsAt 91 = .ok (.if_icmp .ne 16, 3) := by decide +kernel
theorem dX9_failsAt_94 : decode cX9_failsAt 94 = .ok (.aload_n 0, 1) := by decide +kernel
theorem dX9_failsAt_95 : decode cX9_failsAt 95 = .ok (.getfield 35, 3) := by decide +kernel
theorem dX9_failsAt_98 : decode cX9_failsAt 98 = .ok (.iconst 0, 1) := by decide +kernel
theorem dX9_failsAt_99 : decode cX9_failsAt 99 = .ok (.iaload, 1) := by decide +kernel
theorem dX9_failsAt_100 : decode cX9_failsAt 100 = .ok (.ifCond .eq 7, 3) := by decide +kernel
theorem dX9_failsAt_103 : decode cX9_failsAt 103 = .ok (.iconst 1, 1) := by decide +kernel
theorem dX9_failsAt_104 : decode cX9_failsAt 104 = .ok (.goto 4, 3) := by decide +kernel
theorem dX9_failsAt_107 : decode cX9_failsAt 107 = .ok (.iconst 0, 1) := by decide +kernel
theorem dX9_failsAt_108 : decode cX9_failsAt 108 = .ok (.istore 4, 2) := by decide +kernel
theorem dX9_failsAt_110 : decode cX9_failsAt 110 = .ok (.aload_n 0, 1) := by decide +kernel
theorem dX9_failsAt_111 : decode cX9_failsAt 111 = .ok (.getfield 41, 3) := by decide +kernel
theorem dX9_failsAt_114 : decode cX9_failsAt 114 = .ok (.aload_n 0, 1) := by decide +kernel
theorem dX9_failsAt_115 : decode cX9_failsAt 115 = .ok (.getfield 133, 3) := by decide +kernel
theorem dX9_failsAt_118 : decode cX9_failsAt 118 = .ok (.iload 4, 2) := by decide +kernel
theorem dX9_failsAt_120 : decode cX9_failsAt 120 = .ok (.ifCond .eq 17, 3) := by decide +kernel
theorem dX9_failsAt_123 : decode cX9_failsAt 123 = .ok (.aload_n 0, 1) := by decide +kernel
theorem dX9_failsAt_124 : decode cX9_failsAt 124 = .ok (.getfield 35, 3) := by decide +kernel
theorem dX9_failsAt_127 : decode cX9_failsAt 127 = .ok (.aload_n 0, 1) := by decide +kernel
theorem dX9_failsAt_128 : decode cX9_failsAt 128 = .ok (.getfield 124, 3) := by decide +kernel
theorem dX9_failsAt_131 : decode cX9_failsAt 131 = .ok (.iconst 1, 1) := by decide +kernel
theorem dX9_failsAt_132 : decode cX9_failsAt 132 = .ok (.isub, 1) := by decide +kernel
theorem dX9_failsAt_133 : decode cX9_failsAt 133 = .ok (.iaload, 1) := by decide +kernel
theorem dX9_failsAt_134 : decode cX9_failsAt 134 = .ok (.goto 4, 3) := by decide +kernel
theorem dX9_failsAt_137 : decode cX9_failsAt 137 = .ok (.iconst (-1), 1) := by decide +kernel
theorem dX9_failsAt_138 : decode cX9_failsAt 138 = .ok (.iastore, 1) := by decide +kernel
theorem dX9_failsAt_139 : decode cX9_failsAt 139 = .ok (.aload_n 0, 1) := by decide +kernel
theorem dX9_failsAt_140 : decode cX9_failsAt 140 = .ok (.dup, 1) := by decide +kernel
theorem dX9_failsAt_141 : decode cX9_failsAt 141 = .ok (.getfield 133, 3) := by decide +kernel
theorem dX9_failsAt_144 : decode cX9_failsAt 144 = .ok (.iconst 1, 1) := by decide +kernel
theorem dX9_failsAt_145 : decode cX9_failsAt 145 = .ok (.iadd, 1) := by decide +kernel
theorem dX9_failsAt_146 : decode cX9_failsAt 146 = .ok (.putfield 133, 3) := by decide +kernel
theorem dX9_failsAt_149 : decode cX9_failsAt 149 = .ok (.aload_n 0, 1) := by decide +kernel
theorem dX9_failsAt_150 : decode cX9_failsAt 150 = .ok (.getfield 127, 3) := by decide +kernel
theorem dX9_failsAt_153 : decode cX9_failsAt 153 = .ok (.bipush 15, 2) := by decide +kernel
theorem dX9_failsAt_155 : decode cX9_failsAt 155 = .ok (.if_icmp .ne 7, 3) := by decide +kernel
theorem dX9_failsAt_158 : decode cX9_failsAt 158 = .ok (.iconst 1, 1) := by decide +kernel
theorem dX9_failsAt_159 : decode cX9_failsAt 159 = .ok (.goto 4, 3) := by decide +kernel
theorem dX9_failsAt_162 : decode cX9_failsAt 162 = .ok (.iconst 0, 1) := by decide +kernel
theorem dX9_failsAt_163 : decode cX9_failsAt 163 = .ok (.istore_n 3, 1) := by decide +kernel
theorem dX9_failsAt_164 : decode cX9_failsAt 164 = .ok (.aload_n 0, 1) := by decide +kernel
theorem dX9_failsAt_165 : decode cX9_failsAt 165 = .ok (.getfield 104, 3) := by decide +kernel
theorem dX9_failsAt_168 : decode cX9_failsAt 168 = .ok (.istore_n 2, 1) := by decide +kernel
theorem dX9_failsAt_169 : decode cX9_failsAt 169 = .ok (.goto (-158), 3) := by decide +kernel
theorem dX9_failsAt_172 : decode cX9_failsAt 172 = .ok (.iconst 0, 1) := by decide +kernel
theorem dX9_failsAt_173 : decode cX9_failsAt 173 = .ok (.istore 4, 2) := by decide +kernel
theorem dX9_failsAt_175 : decode cX9_failsAt 175 = .ok (.iload 4, 2) := by decide +kernel
theorem dX9_failsAt_177 : decode cX9_failsAt 177 = .ok (.aload_n 0, 1) := by decide +kernel
theorem dX9_failsAt_178 : decode cX9_failsAt 178 = .ok (.getfield 133, 3) := by decide +kernel
theorem dX9_failsAt_181 : decode cX9_failsAt 181 = .ok (.if_icmp .ge 87, 3) := by decide +kernel
theorem dX9_failsAt_184 : decode cX9_failsAt 184 = .ok (.aload_n 0, 1) := by decide +kernel
theorem dX9_failsAt_185 : decode cX9_failsAt 185 = .ok (.getfield 41, 3) := by decide +kernel
theorem dX9_failsAt_188 : decode cX9_failsAt 188 = .ok (.iload 4, 2) := by decide +kernel
theorem dX9_failsAt_190 : decode cX9_failsAt 190 = .ok (.iaload, 1) := by decide +kernel
theorem dX9_failsAt_191 : decode cX9_failsAt 191 = .ok (.iconst (-1), 1) := by decide +kernel
theorem dX9_failsAt_192 : decode cX9_failsAt 192 = .ok (.if_icmp .ne 7, 3) := by decide +kernel
theorem dX9_failsAt_195 : decode cX9_failsAt 195 = .ok (.iconst 1, 1) := by decide +kernel
theorem dX9_failsAt_196 : decode cX9_failsAt 196 = .ok (.goto 4, 3) := by decide +kernel
theorem dX9_failsAt_199 : decode cX9_failsAt 199 = .ok (.iconst 0, 1) := by decide +kernel
theorem dX9_failsAt_200 : decode cX9_failsAt 200 = .ok (.istore 5, 2) := by decide +kernel
theorem dX9_failsAt_202 : decode cX9_failsAt 202 = .ok (.iconst 0, 1) := by decide +kernel
theorem dX9_failsAt_203 : decode cX9_failsAt 203 = .ok (.istore 6, 2) := by decide +kernel
theorem dX9_failsAt_205 : decode cX9_failsAt 205 = .ok (.iload 6, 2) := by decide +kernel
theorem dX9_failsAt_207 : decode cX9_failsAt 207 = .ok (.aload_n 0, 1) := by decide +kernel
theorem dX9_failsAt_208 : decode cX9_failsAt 208 = .ok (.getfield 133, 3) := by decide +kernel
theorem dX9_failsAt_211 : decode cX9_failsAt 211 = .ok (.if_icmp .ge 38, 3) := by decide +kernel
theorem dX9_failsAt_214 : decode cX9_failsAt 214 = .ok (.iload 5, 2) := by decide +kernel
theorem dX9_failsAt_216 : decode cX9_failsAt 216 = .ok (.ifCond .ne 20, 3) := by decide +kernel
theorem dX9_failsAt_219 : decode cX9_failsAt 219 = .ok (.aload_n 0, 1) := by decide +kernel
theorem dX9_failsAt_220 : decode cX9_failsAt 220 = .ok (.getfield 38, 3) := by decide +kernel
theorem dX9_failsAt_223 : decode cX9_failsAt 223 = .ok (.iload 6, 2) := by decide +kernel
theorem dX9_failsAt_225 : decode cX9_failsAt 225 = .ok (.iaload, 1) := by decide +kernel
theorem dX9_failsAt_226 : decode cX9_failsAt 226 = .ok (.aload_n 0, 1) := by decide +kernel
theorem dX9_failsAt_227 : decode cX9_failsAt 227 = .ok (.getfield 41, 3) := by decide +kernel
theorem dX9_failsAt_230 : decode cX9_failsAt 230 = .ok (.iload 4, 2) := by decide +kernel
theorem dX9_failsAt_232 : decode cX9_failsAt 232 = .ok (.iaload, 1) := by decide +kernel
theorem dX9_failsAt_233 : decode cX9_failsAt 233 = .ok (.if_icmp .ne 7, 3) := by decide +kernel
theorem dX9_failsAt_236 : decode cX9_failsAt 236 = .ok (.iconst 1, 1) := by decide +kernel
theorem dX9_failsAt_237 : decode cX9_failsAt 237 = .ok (.goto 4, 3) := by decide +kernel
theorem dX9_failsAt_240 : decode cX9_failsAt 240 = .ok (.iconst 0, 1) := by decide +kernel
theorem dX9_failsAt_241 : decode cX9_failsAt 241 = .ok (.istore 5, 2) := by decide +kernel
theorem dX9_failsAt_243 : decode cX9_failsAt 243 = .ok (.iinc 6 1, 3) := by decide +kernel
theorem dX9_failsAt_246 : decode cX9_failsAt 246 = .ok (.goto (-41), 3) := by decide +kernel
theorem dX9_failsAt_249 : decode cX9_failsAt 249 = .ok (.iload 5, 2) := by decide +kernel
theorem dX9_failsAt_251 : decode cX9_failsAt 251 = .ok (.ifCond .ne 11, 3) := by decide +kernel
theorem dX9_failsAt_254 : decode cX9_failsAt 254 = .ok (.aload_n 0, 1) := by decide +kernel
theorem dX9_failsAt_255 : decode cX9_failsAt 255 = .ok (.getfield 38, 3) := by decide +kernel
theorem dX9_failsAt_258 : decode cX9_failsAt 258 = .ok (.iload 4, 2) := by decide +kernel
theorem dX9_failsAt_260 : decode cX9_failsAt 260 = .ok (.iaload, 1) := by decide +kernel
theorem dX9_failsAt_261 : decode cX9_failsAt 261 = .ok (.ireturn, 1) := by decide +kernel
theorem dX9_failsAt_262 : decode cX9_failsAt 262 = .ok (.iinc 4 1, 3) := by decide +kernel
theorem dX9_failsAt_265 : decode cX9_failsAt 265 = .ok (.goto (-90), 3) := by decide +kernel
theorem dX9_failsAt_268 : decode cX9_failsAt 268 = .ok (.iconst (-1), 1) := by decide +kernel
theorem dX9_failsAt_269 : decode cX9_failsAt 269 = .ok (.ireturn, 1) := by decide +kernel
theorem dX9_isAddress_0 : decode cX9_isAddress 0 = .ok (.iload_n 0, 1) := by decide +kernel
theorem dX9_isAddress_1 : decode cX9_isAddress 1 = .ok (.ifCond .lt 20, 3) := by decide +kernel
theorem dX9_isAddress_4 : decode cX9_isAddress 4 = .ok (.iload_n 0, 1) := by decide +kernel
theorem dX9_isAddress_5 : decode cX9_isAddress 5 = .ok (.sipush 1024, 3) := by decide +kernel
theorem dX9_isAddress_8 : decode cX9_isAddress 8 = .ok (.if_icmp .ge 13, 3) := by decide +kernel
theorem dX9_isAddress_11 : decode cX9_isAddress 11 = .ok (.iload_n 0, 1) := by decide +kernel
theorem dX9_isAddress_12 : decode cX9_isAddress 12 = .ok (.iconst 4, 1) := by decide +kernel
theorem dX9_isAddress_13 : decode cX9_isAddress 13 = .ok (.irem, 1) := by decide +kernel
theorem dX9_isAddress_14 : decode cX9_isAddress 14 = .ok (.ifCond .ne 7, 3) := by decide +kernel
theorem dX9_isAddress_17 : decode cX9_isAddress 17 = .ok (.iconst 1, 1) := by decide +kernel
theorem dX9_isAddress_18 : decode cX9_isAddress 18 = .ok (.goto 4, 3) := by decide +kernel
theorem dX9_isAddress_21 : decode cX9_isAddress 21 = .ok (.iconst 0, 1) := by decide +kernel
theorem dX9_isAddress_22 : decode cX9_isAddress 22 = .ok (.ireturn, 1) := by decide +kernel
theorem dX9_keptOf_0 : decode cX9_keptOf 0 = .ok (.iconst 0, 1) := by decide +kernel
theorem dX9_keptOf_1 : decode cX9_keptOf 1 = .ok (.istore_n 2, 1) := by decide +kernel
theorem dX9_keptOf_2 : decode cX9_keptOf 2 = .ok (.iload_n 2, 1) := by decide +kernel
theorem dX9_keptOf_3 : decode cX9_keptOf 3 = .ok (.aload_n 0, 1) := by decide +kernel
theorem dX9_keptOf_4 : decode cX9_keptOf 4 = .ok (.getfield 80, 3) := by decide +kernel
theorem dX9_keptOf_7 : decode cX9_keptOf 7 = .ok (.if_icmp .ge 21, 3) := by decide +kernel
theorem dX9_keptOf_10 : decode cX9_keptOf 10 = .ok (.aload_n 0, 1) := by decide +kernel
theorem dX9_keptOf_11 : decode cX9_keptOf 11 = .ok (.getfield 22, 3) := by decide +kernel
theorem dX9_keptOf_14 : decode cX9_keptOf 14 = .ok (.iload_n 2, 1) := by decide +kernel
theorem dX9_keptOf_15 : decode cX9_keptOf 15 = .ok (.iaload, 1) := by decide +kernel
theorem dX9_keptOf_16 : decode cX9_keptOf 16 = .ok (.iload_n 1, 1) := by decide +kernel
theorem dX9_keptOf_17 : decode cX9_keptOf 17 = .ok (.if_icmp .ne 5, 3) := by decide +kernel
theorem dX9_keptOf_20 : decode cX9_keptOf 20 = .ok (.iload_n 2, 1) := by decide +kernel
theorem dX9_keptOf_21 : decode cX9_keptOf 21 = .ok (.ireturn, 1) := by decide +kernel
theorem dX9_keptOf_22 : decode cX9_keptOf 22 = .ok (.iinc 2 1, 3) := by decide +kernel
theorem dX9_keptOf_25 : decode cX9_keptOf 25 = .ok (.goto (-23), 3) := by decide +kernel
theorem dX9_keptOf_28 : decode cX9_keptOf 28 = .ok (.iconst (-1), 1) := by decide +kernel
theorem dX9_keptOf_29 : decode cX9_keptOf 29 = .ok (.ireturn, 1) := by decide +kernel
theorem dX9_make_0 : decode cX9_make 0 = .ok (.aload_n 0, 1) := by decide +kernel
theorem dX9_make_1 : decode cX9_make 1 = .ok (.iconst 0, 1) := by decide +kernel
theorem dX9_make_2 : decode cX9_make 2 = .ok (.putfield 77, 3) := by decide +kernel
theorem dX9_make_5 : decode cX9_make 5 = .ok (.aload_n 0, 1) := by decide +kernel
theorem dX9_make_6 : decode cX9_make 6 = .ok (.iconst (-1), 1) := by decide +kernel
theorem dX9_make_7 : decode cX9_make 7 = .ok (.putfield 31, 3) := by decide +kernel
theorem dX9_make_10 : decode cX9_make 10 = .ok (.iload_n 1, 1) := by decide +kernel
theorem dX9_make_11 : decode cX9_make 11 = .ok (.invokestatic 140, 3) := by decide +kernel
theorem dX9_make_14 : decode cX9_make 14 = .ok (.ifCond .eq 14, 3) := by decide +kernel
theorem dX9_make_17 : decode cX9_make 17 = .ok (.aload_n 0, 1) := by decide +kernel
theorem dX9_make_18 : decode cX9_make 18 = .ok (.getfield 7, 3) := by decide +kernel
theorem dX9_make_21 : decode cX9_make 21 = .ok (.iload_n 1, 1) := by decide +kernel
theorem dX9_make_22 : decode cX9_make 22 = .ok (.iaload, 1) := by decide +kernel
theorem dX9_make_23 : decode cX9_make 23 = .ok (.bipush 8, 2) := by decide +kernel
theorem dX9_make_25 : decode cX9_make 25 = .ok (.if_icmp .le 6, 3) := by decide +kernel
theorem dX9_make_28 : decode cX9_make 28 = .ok (.bipush (-2), 2) := by decide +kernel
theorem dX9_make_30 : decode cX9_make 30 = .ok (.ireturn, 1) := by decide +kernel
theorem dX9_make_31 : decode cX9_make 31 = .ok (.aload_n 0, 1) := by decide +kernel
theorem dX9_make_32 : decode cX9_make 32 = .ok (.iload_n 1, 1) := by decide +kernel
theorem dX9_make_33 : decode cX9_make 33 = .ok (.invokevirtual 143, 3) := by decide +kernel
theorem dX9_make_36 : decode cX9_make 36 = .ok (.istore_n 2, 1) := by decide +kernel
theorem dX9_make_37 : decode cX9_make 37 = .ok (.iload_n 2, 1) := by decide +kernel
theorem dX9_make_38 : decode cX9_make 38 = .ok (.iconst (-1), 1) := by decide +kernel
theorem dX9_make_39 : decode cX9_make 39 = .ok (.if_icmp .eq 11, 3) := by decide +kernel
theorem dX9_make_42 : decode cX9_make 42 = .ok (.aload_n 0, 1) := by decide +kernel
theorem dX9_make_43 : decode cX9_make 43 = .ok (.iload_n 2, 1) := by decide +kernel
theorem dX9_make_44 : decode cX9_make 44 = .ok (.putfield 31, 3) := by decide +kernel
theorem dX9_make_47 : decode cX9_make 47 = .ok (.bipush (-2), 2) := by decide +kernel
theorem dX9_make_49 : decode cX9_make 49 = .ok (.ireturn, 1) := by decide +kernel
theorem dX9_make_50 : decode cX9_make 50 = .ok (.aload_n 0, 1) := by decide +kernel
theorem dX9_make_51 : decode cX9_make 51 = .ok (.iload_n 1, 1) := by decide +kernel
theorem dX9_make_52 : decode cX9_make 52 = .ok (.invokevirtual 146, 3) := by decide +kernel
theorem dX9_make_55 : decode cX9_make 55 = .ok (.iconst (-1), 1) := by decide +kernel
theorem dX9_make_56 : decode cX9_make 56 = .ok (.if_icmp .eq 6, 3) := by decide +kernel
theorem dX9_make_59 : decode cX9_make 59 = .ok (.bipush (-4), 2) := by decide +kernel
theorem dX9_make_61 : decode cX9_make 61 = .ok (.ireturn, 1) := by decide +kernel
theorem dX9_make_62 : decode cX9_make 62 = .ok (.aload_n 0, 1) := by decide +kernel
theorem dX9_make_63 : decode cX9_make 63 = .ok (.getfield 74, 3) := by decide +kernel
theorem dX9_make_66 : decode cX9_make 66 = .ok (.ifCond .ne 6, 3) := by decide +kernel
theorem dX9_make_69 : decode cX9_make 69 = .ok (.bipush (-3), 2) := by decide +kernel
theorem dX9_make_71 : decode cX9_make 71 = .ok (.ireturn, 1) := by decide +kernel
theorem dX9_make_72 : decode cX9_make 72 = .ok (.aload_n 0, 1) := by decide +kernel
theorem dX9_make_73 : decode cX9_make 73 = .ok (.getfield 80, 3) := by decide +kernel
theorem dX9_make_76 : decode cX9_make 76 = .ok (.aload_n 0, 1) := by decide +kernel
theorem dX9_make_77 : decode cX9_make 77 = .ok (.getfield 74, 3) := by decide +kernel
theorem dX9_make_80 : decode cX9_make 80 = .ok (.if_icmp .ne 8, 3) := by decide +kernel
theorem dX9_make_83 : decode cX9_make 83 = .ok (.aload_n 0, 1) := by decide +kernel
theorem dX9_make_84 : decode cX9_make 84 = .ok (.iconst 0, 1) := by decide +kernel
theorem dX9_make_85 : decode cX9_make 85 = .ok (.invokevirtual 86, 3) := by decide +kernel
theorem dX9_make_88 : decode cX9_make 88 = .ok (.aload_n 0, 1) := by decide +kernel
theorem dX9_make_89 : decode cX9_make 89 = .ok (.getfield 22, 3) := by decide +kernel
theorem dX9_make_92 : decode cX9_make 92 = .ok (.aload_n 0, 1) := by decide +kernel
theorem dX9_make_93 : decode cX9_make 93 = .ok (.getfield 80, 3) := by decide +kernel
theorem dX9_make_96 : decode cX9_make 96 = .ok (.iload_n 1, 1) := by decide +kernel
theorem dX9_make_97 : decode cX9_make 97 = .ok (.iastore, 1) := by decide +kernel
theorem dX9_make_98 : decode cX9_make 98 = .ok (.aload_n 0, 1) := by decide +kernel
theorem dX9_make_99 : decode cX9_make 99 = .ok (.getfield 25, 3) := by decide +kernel
theorem dX9_make_102 : decode cX9_make 102 = .ok (.aload_n 0, 1) := by decide +kernel
theorem dX9_make_103 : decode cX9_make 103 = .ok (.getfield 80, 3) := by decide +kernel
theorem dX9_make_106 : decode cX9_make 106 = .ok (.iload_n 1, 1) := by decide +kernel
theorem dX9_make_107 : decode cX9_make 107 = .ok (.aload_n 0, 1) := by decide +kernel
theorem dX9_make_108 : decode cX9_make 108 = .ok (.getfield 38, 3) := by decide +kernel
theorem dX9_make_111 : decode cX9_make 111 = .ok (.aload_n 0, 1) := by decide +kernel
theorem dX9_make_112 : decode cX9_make 112 = .ok (.getfield 133, 3) := by decide +kernel
theorem dX9_make_115 : decode cX9_make 115 = .ok (.iconst 1, 1) := by decide +kernel
theorem dX9_make_116 : decode cX9_make 116 = .ok (.isub, 1) := by decide +kernel
theorem dX9_make_117 : decode cX9_make 117 = .ok (.iaload, 1) := by decide +kernel
theorem dX9_make_118 : decode cX9_make 118 = .ok (.iadd, 1) := by decide +kernel
theorem dX9_make_119 : decode cX9_make 119 = .ok (.iastore, 1) := by decide +kernel
theorem dX9_make_120 : decode cX9_make 120 = .ok (.aload_n 0, 1) := by decide +kernel
theorem dX9_make_121 : decode cX9_make 121 = .ok (.getfield 28, 3) := by decide +kernel
theorem dX9_make_124 : decode cX9_make 124 = .ok (.aload_n 0, 1) := by decide +kernel
theorem dX9_make_125 : decode cX9_make 125 = .ok (.getfield 80, 3) := by decide +kernel
theorem dX9_make_128 : decode cX9_make 128 = .ok (.aload_n 0, 1) := by decide +kernel
theorem dX9_make_129 : decode cX9_make 129 = .ok (.getfield 149, 3) := by decide +kernel
theorem dX9_make_132 : decode cX9_make 132 = .ok (.iastore, 1) := by decide +kernel
theorem dX9_make_133 : decode cX9_make 133 = .ok (.aload_n 0, 1) := by decide +kernel
theorem dX9_make_134 : decode cX9_make 134 = .ok (.dup, 1) := by decide +kernel
theorem dX9_make_135 : decode cX9_make 135 = .ok (.getfield 80, 3) := by decide +kernel
theorem dX9_make_138 : decode cX9_make 138 = .ok (.iconst 1, 1) := by decide +kernel
theorem dX9_make_139 : decode cX9_make 139 = .ok (.iadd, 1) := by decide +kernel
theorem dX9_make_140 : decode cX9_make 140 = .ok (.putfield 80, 3) := by decide +kernel
theorem dX9_make_143 : decode cX9_make 143 = .ok (.aload_n 0, 1) := by decide +kernel
theorem dX9_make_144 : decode cX9_make 144 = .ok (.dup, 1) := by decide +kernel
theorem dX9_make_145 : decode cX9_make 145 = .ok (.getfield 149, 3) := by decide +kernel
theorem dX9_make_148 : decode cX9_make 148 = .ok (.iconst 1, 1) := by decide +kernel
theorem dX9_make_149 : decode cX9_make 149 = .ok (.iadd, 1) := by decide +kernel
theorem dX9_make_150 : decode cX9_make 150 = .ok (.putfield 149, 3) := by decide +kernel
theorem dX9_make_153 : decode cX9_make 153 = .ok (.aload_n 0, 1) := by decide +kernel
theorem dX9_make_154 : decode cX9_make 154 = .ok (.getfield 133, 3) := by decide +kernel
theorem dX9_make_157 : decode cX9_make 157 = .ok (.ireturn, 1) := by decide +kernel
theorem dX9_place_0 : decode cX9_place 0 = .ok (.aload_n 0, 1) := by decide +kernel
theorem dX9_place_1 : decode cX9_place 1 = .ok (.iconst 0, 1) := by decide +kernel
theorem dX9_place_2 : decode cX9_place 2 = .ok (.putfield 77, 3) := by decide +kernel
theorem dX9_place_5 : decode cX9_place 5 = .ok (.aload_n 0, 1) := by decide +kernel
theorem dX9_place_6 : decode cX9_place 6 = .ok (.getfield 31, 3) := by decide +kernel
theorem dX9_place_9 : decode cX9_place 9 = .ok (.ireturn, 1) := by decide +kernel
theorem dX9_fails_0 : decode cX9_fails 0 = .ok (.aload_n 0, 1) := by decide +kernel
theorem dX9_fails_1 : decode cX9_fails 1 = .ok (.iload_n 1, 1) := by decide +kernel
theorem dX9_fails_2 : decode cX9_fails 2 = .ok (.putfield 152, 3) := by decide +kernel
theorem dX9_fails_5 : decode cX9_fails 5 = .ok (.aload_n 0, 1) := by decide +kernel
theorem dX9_fails_6 : decode cX9_fails 6 = .ok (.aload_n 0, 1) := by decide +kernel
theorem dX9_fails_7 : decode cX9_fails 7 = .ok (.getfield 155, 3) := by decide +kernel
theorem dX9_fails_10 : decode cX9_fails 10 = .ok (.putfield 68, 3) := by decide +kernel
theorem dX9_fails_13 : decode cX9_fails 13 = .ok (.aload_n 0, 1) := by decide +kernel
theorem dX9_fails_14 : decode cX9_fails 14 = .ok (.aload_n 0, 1) := by decide +kernel
theorem dX9_fails_15 : decode cX9_fails 15 = .ok (.getfield 158, 3) := by decide +kernel
theorem dX9_fails_18 : decode cX9_fails 18 = .ok (.putfield 71, 3) := by decide +kernel
theorem dX9_fails_21 : decode cX9_fails 21 = .ok (.return_, 1) := by decide +kernel
theorem dX9_valueOf_0 : decode cX9_valueOf 0 = .ok (.iload_n 1, 1) := by decide +kernel
theorem dX9_valueOf_1 : decode cX9_valueOf 1 = .ok (.sipush 128, 3) := by decide +kernel
theorem dX9_valueOf_4 : decode cX9_valueOf 4 = .ok (.if_icmp .ge 7, 3) := by decide +kernel
theorem dX9_valueOf_7 : decode cX9_valueOf 7 = .ok (.iload_n 1, 1) := by decide +kernel
theorem dX9_valueOf_8 : decode cX9_valueOf 8 = .ok (.goto 43, 3) := by decide +kernel
theorem dX9_valueOf_11 : decode cX9_valueOf 11 = .ok (.iload_n 1, 1) := by decide +kernel
theorem dX9_valueOf_12 : decode cX9_valueOf 12 = .ok (.sipush 136, 3) := by decide +kernel
theorem dX9_valueOf_15 : decode cX9_valueOf 15 = .ok (.if_icmp .ge 26, 3) := by decide +kernel
theorem dX9_valueOf_18 : decode cX9_valueOf 18 = .ok (.aload_n 0, 1) := by decide +kernel
theorem dX9_valueOf_19 : decode cX9_valueOf 19 = .ok (.getfield 62, 3) := by decide +kernel
theorem dX9_valueOf_22 : decode cX9_valueOf 22 = .ok (.bipush 8, 2) := by decide +kernel
theorem dX9_valueOf_24 : decode cX9_valueOf 24 = .ok (.aload_n 0, 1) := by decide +kernel
theorem dX9_valueOf_25 : decode cX9_valueOf 25 = .ok (.getfield 161, 3) := by decide +kernel
theorem dX9_valueOf_28 : decode cX9_valueOf 28 = .ok (.iconst 1, 1) := by decide +kernel
theorem dX9_valueOf_29 : decode cX9_valueOf 29 = .ok (.isub, 1) := by decide +kernel
theorem dX9_valueOf_30 : decode cX9_valueOf 30 = .ok (.imul, 1) := by decide +kernel
theorem dX9_valueOf_31 : decode cX9_valueOf 31 = .ok (.iload_n 1, 1) := by decide +kernel
theorem dX9_valueOf_32 : decode cX9_valueOf 32 = .ok (.iadd, 1) := by decide +kernel
theorem dX9_valueOf_33 : decode cX9_valueOf 33 = .ok (.sipush 128, 3) := by decide +kernel
theorem dX9_valueOf_36 : decode cX9_valueOf 36 = .ok (.isub, 1) := by decide +kernel
theorem dX9_valueOf_37 : decode cX9_valueOf 37 = .ok (.iaload, 1) := by decide +kernel
theorem dX9_valueOf_38 : decode cX9_valueOf 38 = .ok (.goto 13, 3) := by decide +kernel
theorem dX9_valueOf_41 : decode cX9_valueOf 41 = .ok (.aload_n 0, 1) := by decide +kernel
theorem dX9_valueOf_42 : decode cX9_valueOf 42 = .ok (.getfield 13, 3) := by decide +kernel
theorem dX9_valueOf_45 : decode cX9_valueOf 45 = .ok (.iload_n 1, 1) := by decide +kernel
theorem dX9_valueOf_46 : decode cX9_valueOf 46 = .ok (.sipush 136, 3) := by decide +kernel
theorem dX9_valueOf_49 : decode cX9_valueOf 49 = .ok (.isub, 1) := by decide +kernel
theorem dX9_valueOf_50 : decode cX9_valueOf 50 = .ok (.iaload, 1) := by decide +kernel
theorem dX9_valueOf_51 : decode cX9_valueOf 51 = .ok (.ireturn, 1) := by decide +kernel
theorem dX9_becomes_0 : decode cX9_becomes 0 = .ok (.iload_n 1, 1) := by decide +kernel
theorem dX9_becomes_1 : decode cX9_becomes 1 = .ok (.sipush 136, 3) := by decide +kernel
theorem dX9_becomes_4 : decode cX9_becomes 4 = .ok (.if_icmp .ge 27, 3) := by decide +kernel
theorem dX9_becomes_7 : decode cX9_becomes 7 = .ok (.aload_n 0, 1) := by decide +kernel
theorem dX9_becomes_8 : decode cX9_becomes 8 = .ok (.getfield 62, 3) := by decide +kernel
theorem dX9_becomes_11 : decode cX9_becomes 11 = .ok (.bipush 8, 2) := by decide +kernel
theorem dX9_becomes_13 : decode cX9_becomes 13 = .ok (.aload_n 0, 1) := by decide +kernel
theorem dX9_becomes_14 : decode cX9_becomes 14 = .ok (.getfield 161, 3) := by decide +kernel
theorem dX9_becomes_17 : decode cX9_becomes 17 = .ok (.iconst 1, 1) := by decide +kernel
theorem dX9_becomes_18 : decode cX9_becomes 18 = .ok (.isub, 1) := by decide +kernel
theorem dX9_becomes_19 : decode cX9_becomes 19 = .ok (.imul, 1) := by decide +kernel
theorem dX9_becomes_20 : decode cX9_becomes 20 = .ok (.iload_n 1, 1) := by decide +kernel
theorem dX9_becomes_21 : decode cX9_becomes 21 = .ok (.iadd, 1) := by decide +kernel
theorem dX9_becomes_22 : decode cX9_becomes 22 = .ok (.sipush 128, 3) := by decide +kernel
theorem dX9_becomes_25 : decode cX9_becomes 25 = .ok (.isub, 1) := by decide +kernel
theorem dX9_becomes_26 : decode cX9_becomes 26 = .ok (.iload_n 2, 1) := by decide +kernel
theorem dX9_becomes_27 : decode cX9_becomes 27 = .ok (.iastore, 1) := by decide +kernel
theorem dX9_becomes_28 : decode cX9_becomes 28 = .ok (.goto 14, 3) := by decide +kernel
theorem dX9_becomes_31 : decode cX9_becomes 31 = .ok (.aload_n 0, 1) := by decide +kernel
theorem dX9_becomes_32 : decode cX9_becomes 32 = .ok (.getfield 13, 3) := by decide +kernel
theorem dX9_becomes_35 : decode cX9_becomes 35 = .ok (.iload_n 1, 1) := by decide +kernel
theorem dX9_becomes_36 : decode cX9_becomes 36 = .ok (.sipush 136, 3) := by decide +kernel
theorem dX9_becomes_39 : decode cX9_becomes 39 = .ok (.isub, 1) := by decide +kernel
theorem dX9_becomes_40 : decode cX9_becomes 40 = .ok (.iload_n 2, 1) := by decide +kernel
theorem dX9_becomes_41 : decode cX9_becomes 41 = .ok (.iastore, 1) := by decide +kernel
theorem dX9_becomes_42 : decode cX9_becomes 42 = .ok (.return_, 1) := by decide +kernel
theorem dX9_step_0 : decode cX9_step 0 = .ok (.aload_n 0, 1) := by decide +kernel
theorem dX9_step_1 : decode cX9_step 1 = .ok (.getfield 164, 3) := by decide +kernel
theorem dX9_step_4 : decode cX9_step 4 = .ok (.sipush 400, 3) := by decide +kernel
theorem dX9_step_7 : decode cX9_step 7 = .ok (.if_icmp .ne 10, 3) := by decide +kernel
theorem dX9_step_10 : decode cX9_step 10 = .ok (.aload_n 0, 1) := by decide +kernel
theorem dX9_step_11 : decode cX9_step 11 = .ok (.iconst 5, 1) := by decide +kernel
theorem dX9_step_12 : decode cX9_step 12 = .ok (.invokevirtual 167, 3) := by decide +kernel
theorem dX9_step_15 : decode cX9_step 15 = .ok (.iconst 0, 1) := by decide +kernel
theorem dX9_step_16 : decode cX9_step 16 = .ok (.ireturn, 1) := by decide +kernel
theorem dX9_step_17 : decode cX9_step 17 = .ok (.aload_n 0, 1) := by decide +kernel
theorem dX9_step_18 : decode cX9_step 18 = .ok (.dup, 1) := by decide +kernel
theorem dX9_step_19 : decode cX9_step 19 = .ok (.getfield 164, 3) := by decide +kernel
theorem dX9_step_22 : decode cX9_step 22 = .ok (.iconst 1, 1) := by decide +kernel
theorem dX9_step_23 : decode cX9_step 23 = .ok (.iadd, 1) := by decide +kernel
theorem dX9_step_24 : decode cX9_step 24 = .ok (.putfield 164, 3) := by decide +kernel
theorem dX9_step_27 : decode cX9_step 27 = .ok (.aload_n 0, 1) := by decide +kernel
theorem dX9_step_28 : decode cX9_step 28 = .ok (.dup, 1) := by decide +kernel
theorem dX9_step_29 : decode cX9_step 29 = .ok (.getfield 170, 3) := by decide +kernel
theorem dX9_step_32 : decode cX9_step 32 = .ok (.iconst 1, 1) := by decide +kernel
theorem dX9_step_33 : decode cX9_step 33 = .ok (.iadd, 1) := by decide +kernel
theorem dX9_step_34 : decode cX9_step 34 = .ok (.putfield 170, 3) := by decide +kernel
theorem dX9_step_37 : decode cX9_step 37 = .ok (.iconst 1, 1) := by decide +kernel
theorem dX9_step_38 : decode cX9_step 38 = .ok (.ireturn, 1) := by decide +kernel
theorem dX9_builtIn_0 : decode cX9_builtIn 0 = .ok (.iconst 0, 1) := by decide +kernel
theorem dX9_builtIn_1 : decode cX9_builtIn 1 = .ok (.istore_n 2, 1) := by decide +kernel
theorem dX9_builtIn_2 : decode cX9_builtIn 2 = .ok (.iload_n 1, 1) := by decide +kernel
theorem dX9_builtIn_3 : decode cX9_builtIn 3 = .ok (.tableswitch 130 1 3 #[25, 52, 95], 25) := by decide +kernel
theorem dX9_builtIn_28 : decode cX9_builtIn 28 = .ok (.iconst 0, 1) := by decide +kernel
theorem dX9_builtIn_29 : decode cX9_builtIn 29 = .ok (.istore_n 3, 1) := by decide +kernel
theorem dX9_builtIn_30 : decode cX9_builtIn 30 = .ok (.iload_n 3, 1) := by decide +kernel
theorem dX9_builtIn_31 : decode cX9_builtIn 31 = .ok (.aload_n 0, 1) := by decide +kernel
theorem dX9_builtIn_32 : decode cX9_builtIn 32 = .ok (.getfield 173, 3) := by decide +kernel
theorem dX9_builtIn_35 : decode cX9_builtIn 35 = .ok (.if_icmp .ge 18, 3) := by decide +kernel
theorem dX9_builtIn_38 : decode cX9_builtIn 38 = .ok (.iload_n 2, 1) := by decide +kernel
theorem dX9_builtIn_39 : decode cX9_builtIn 39 = .ok (.aload_n 0, 1) := by decide +kernel
theorem dX9_builtIn_40 : decode cX9_builtIn 40 = .ok (.getfield 65, 3) := by decide +kernel
theorem dX9_builtIn_43 : decode cX9_builtIn 43 = .ok (.iload_n 3, 1) := by decide +kernel
theorem dX9_builtIn_44 : decode cX9_builtIn 44 = .ok (.iaload, 1) := by decide +kernel
theorem dX9_builtIn_45 : decode cX9_builtIn 45 = .ok (.iadd, 1) := by decide +kernel
theorem dX9_builtIn_46 : decode cX9_builtIn 46 = .ok (.istore_n 2, 1) := by decide +kernel
theorem dX9_builtIn_47 : decode cX9_builtIn 47 = .ok (.iinc 3 1, 3) := by decide +kernel
theorem dX9_builtIn_50 : decode cX9_builtIn 50 = .ok (.goto (-20), 3) := by decide +kernel
theorem dX9_builtIn_53 : decode cX9_builtIn 53 = .ok (.iload_n 2, 1) := by decide +kernel
theorem dX9_builtIn_54 : decode cX9_builtIn 54 = .ok (.ireturn, 1) := by decide +kernel
theorem dX9_builtIn_55 : decode cX9_builtIn 55 = .ok (.iconst 0, 1) := by decide +kernel
theorem dX9_builtIn_56 : decode cX9_builtIn 56 = .ok (.istore_n 3, 1) := by decide +kernel
theorem dX9_builtIn_57 : decode cX9_builtIn 57 = .ok (.iload_n 3, 1) := by decide +kernel
theorem dX9_builtIn_58 : decode cX9_builtIn 58 = .ok (.aload_n 0, 1) := by decide +kernel
theorem dX9_builtIn_59 : decode cX9_builtIn 59 = .ok (.getfield 173, 3) := by decide +kernel
theorem dX9_builtIn_62 : decode cX9_builtIn 62 = .ok (.if_icmp .ge 34, 3) := by decide +kernel
theorem dX9_builtIn_65 : decode cX9_builtIn 65 = .ok (.iload_n 3, 1) := by decide +kernel
theorem dX9_builtIn_66 : decode cX9_builtIn 66 = .ok (.ifCond .eq 13, 3) := by decide +kernel
theorem dX9_builtIn_69 : decode cX9_builtIn 69 = .ok (.aload_n 0, 1) := by decide +kernel
theorem dX9_builtIn_70 : decode cX9_builtIn 70 = .ok (.getfield 65, 3) := by decide +kernel
theorem dX9_builtIn_73 : decode cX9_builtIn 73 = .ok (.iload_n 3, 1) := by decide +kernel
theorem dX9_builtIn_74 : decode cX9_builtIn 74 = .ok (.iaload, 1) := by decide +kernel
theorem dX9_builtIn_75 : decode cX9_builtIn 75 = .ok (.iload_n 2, 1) := by decide +kernel
theorem dX9_builtIn_76 : decode cX9_builtIn 76 = .ok (.if_icmp .le 12, 3) := by decide +kernel
theorem dX9_builtIn_79 : decode cX9_builtIn 79 = .ok (.aload_n 0, 1) := by decide +kernel
theorem dX9_builtIn_80 : decode cX9_builtIn 80 = .ok (.getfield 65, 3) := by decide +kernel
theorem dX9_builtIn_83 : decode cX9_builtIn 83 = .ok (.iload_n 3, 1) := by decide +kernel
theorem dX9_builtIn_84 : decode cX9_builtIn 84 = .ok (.iaload, 1) := by decide +kernel
theorem dX9_builtIn_85 : decode cX9_builtIn 85 = .ok (.goto 4, 3) := by decide +kernel
theorem dX9_builtIn_88 : decode cX9_builtIn 88 = .ok (.iload_n 2, 1) := by decide +kernel
theorem dX9_builtIn_89 : decode cX9_builtIn 89 = .ok (.istore_n 2, 1) := by decide +kernel
theorem dX9_builtIn_90 : decode cX9_builtIn 90 = .ok (.iinc 3 1, 3) := by decide +kernel
theorem dX9_builtIn_93 : decode cX9_builtIn 93 = .ok (.goto (-36), 3) := by decide +kernel
theorem dX9_builtIn_96 : decode cX9_builtIn 96 = .ok (.iload_n 2, 1) := by decide +kernel
theorem dX9_builtIn_97 : decode cX9_builtIn 97 = .ok (.ireturn, 1) := by decide +kernel
theorem dX9_builtIn_98 : decode cX9_builtIn 98 = .ok (.iconst 0, 1) := by decide +kernel
theorem dX9_builtIn_99 : decode cX9_builtIn 99 = .ok (.istore_n 3, 1) := by decide +kernel
theorem dX9_builtIn_100 : decode cX9_builtIn 100 = .ok (.iload_n 3, 1) := by decide +kernel
theorem dX9_builtIn_101 : decode cX9_builtIn 101 = .ok (.aload_n 0, 1) := by decide +kernel
theorem dX9_builtIn_102 : decode cX9_builtIn 102 = .ok (.getfield 173, 3) := by decide +kernel
theorem dX9_builtIn_105 : decode cX9_builtIn 105 = .ok (.if_icmp .ge 26, 3) := by decide +kernel
theorem dX9_builtIn_108 : decode cX9_builtIn 108 = .ok (.iload_n 2, 1) := by decide +kernel
theorem dX9_builtIn_109 : decode cX9_builtIn 109 = .ok (.aload_n 0, 1) := by decide +kernel
theorem dX9_builtIn_110 : decode cX9_builtIn 110 = .ok (.getfield 65, 3) := by decide +kernel
theorem dX9_builtIn_113 : decode cX9_builtIn 113 = .ok (.iload_n 3, 1) := by decide +kernel
theorem dX9_builtIn_114 : decode cX9_builtIn 114 = .ok (.iaload, 1) := by decide +kernel
theorem dX9_builtIn_115 : decode cX9_builtIn 115 = .ok (.ifCond .eq 7, 3) := by decide +kernel
theorem dX9_builtIn_118 : decode cX9_builtIn 118 = .ok (.iconst 1, 1) := by decide +kernel
theorem dX9_builtIn_119 : decode cX9_builtIn 119 = .ok (.goto 4, 3) := by decide +kernel
theorem dX9_builtIn_122 : decode cX9_builtIn 122 = .ok (.iconst 0, 1) := by decide +kernel
theorem dX9_builtIn_123 : decode cX9_builtIn 123 = .ok (.iadd, 1) := by decide +kernel
theorem dX9_builtIn_124 : decode cX9_builtIn 124 = .ok (.istore_n 2, 1) := by decide +kernel
theorem dX9_builtIn_125 : decode cX9_builtIn 125 = .ok (.iinc 3 1, 3) := by decide +kernel
theorem dX9_builtIn_128 : decode cX9_builtIn 128 = .ok (.goto (-28), 3) := by decide +kernel
theorem dX9_builtIn_131 : decode cX9_builtIn 131 = .ok (.iload_n 2, 1) := by decide +kernel
theorem dX9_builtIn_132 : decode cX9_builtIn 132 = .ok (.ireturn, 1) := by decide +kernel
theorem dX9_builtIn_133 : decode cX9_builtIn 133 = .ok (.aload_n 0, 1) := by decide +kernel
theorem dX9_builtIn_134 : decode cX9_builtIn 134 = .ok (.getfield 173, 3) := by decide +kernel
theorem dX9_builtIn_137 : decode cX9_builtIn 137 = .ok (.ifCond .eq 16, 3) := by decide +kernel
theorem dX9_builtIn_140 : decode cX9_builtIn 140 = .ok (.aload_n 0, 1) := by decide +kernel
theorem dX9_builtIn_141 : decode cX9_builtIn 141 = .ok (.aload_n 0, 1) := by decide +kernel
theorem dX9_builtIn_142 : decode cX9_builtIn 142 = .ok (.getfield 65, 3) := by decide +kernel
theorem dX9_builtIn_145 : decode cX9_builtIn 145 = .ok (.iconst 0, 1) := by decide +kernel
theorem dX9_builtIn_146 : decode cX9_builtIn 146 = .ok (.iaload, 1) := by decide +kernel
theorem dX9_builtIn_147 : decode cX9_builtIn 147 = .ok (.invokevirtual 94, 3) := by decide +kernel
theorem dX9_builtIn_150 : decode cX9_builtIn 150 = .ok (.ifCond .ne 10, 3) := by decide +kernel
theorem dX9_builtIn_153 : decode cX9_builtIn 153 = .ok (.aload_n 0, 1) := by decide +kernel
theorem dX9_builtIn_154 : decode cX9_builtIn 154 = .ok (.iconst 1, 1) := by decide +kernel
theorem dX9_builtIn_155 : decode cX9_builtIn 155 = .ok (.invokevirtual 167, 3) := by decide +kernel
theorem dX9_builtIn_158 : decode cX9_builtIn 158 = .ok (.iconst 0, 1) := by decide +kernel
theorem dX9_builtIn_159 : decode cX9_builtIn 159 = .ok (.ireturn, 1) := by decide +kernel
theorem dX9_builtIn_160 : decode cX9_builtIn 160 = .ok (.aload_n 0, 1) := by decide +kernel
theorem dX9_builtIn_161 : decode cX9_builtIn 161 = .ok (.getfield 7, 3) := by decide +kernel
theorem dX9_builtIn_164 : decode cX9_builtIn 164 = .ok (.aload_n 0, 1) := by decide +kernel
theorem dX9_builtIn_165 : decode cX9_builtIn 165 = .ok (.getfield 65, 3) := by decide +kernel
theorem dX9_builtIn_168 : decode cX9_builtIn 168 = .ok (.iconst 0, 1) := by decide +kernel
theorem dX9_builtIn_169 : decode cX9_builtIn 169 = .ok (.iaload, 1) := by decide +kernel
theorem dX9_builtIn_170 : decode cX9_builtIn 170 = .ok (.iaload, 1) := by decide +kernel
theorem dX9_builtIn_171 : decode cX9_builtIn 171 = .ok (.ireturn, 1) := by decide +kernel
theorem dX9_go_0 : decode cX9_go 0 = .ok (.iload_n 1, 1) := by decide +kernel
theorem dX9_go_1 : decode cX9_go 1 = .ok (.invokestatic 140, 3) := by decide +kernel
theorem dX9_go_4 : decode cX9_go 4 = .ok (.ifCond .eq 69, 3) := by decide +kernel
theorem dX9_go_7 : decode cX9_go 7 = .ok (.aload_n 0, 1) := by decide +kernel
theorem dX9_go_8 : decode cX9_go 8 = .ok (.getfield 19, 3) := by decide +kernel
theorem dX9_go_11 : decode cX9_go 11 = .ok (.iload_n 1, 1) := by decide +kernel
theorem dX9_go_12 : decode cX9_go 12 = .ok (.iconst 4, 1) := by decide +kernel
theorem dX9_go_13 : decode cX9_go 13 = .ok (.idiv, 1) := by decide +kernel
theorem dX9_go_14 : decode cX9_go 14 = .ok (.iaload, 1) := by decide +kernel
theorem dX9_go_15 : decode cX9_go 15 = .ok (.ifCond .eq 58, 3) := by decide +kernel
theorem dX9_go_18 : decode cX9_go 18 = .ok (.aload_n 0, 1) := by decide +kernel
theorem dX9_go_19 : decode cX9_go 19 = .ok (.invokevirtual 176, 3) := by decide +kernel
theorem dX9_go_22 : decode cX9_go 22 = .ok (.ifCond .eq 50, 3) := by decide +kernel
theorem dX9_go_25 : decode cX9_go 25 = .ok (.aload_n 0, 1) := by decide +kernel
theorem dX9_go_26 : decode cX9_go 26 = .ok (.aload_n 0, 1) := by decide +kernel
theorem dX9_go_27 : decode cX9_go 27 = .ok (.getfield 19, 3) := by decide +kernel
theorem dX9_go_30 : decode cX9_go 30 = .ok (.iload_n 1, 1) := by decide +kernel
theorem dX9_go_31 : decode cX9_go 31 = .ok (.iconst 4, 1) := by decide +kernel
theorem dX9_go_32 : decode cX9_go 32 = .ok (.idiv, 1) := by decide +kernel
theorem dX9_go_33 : decode cX9_go 33 = .ok (.iaload, 1) := by decide +kernel
theorem dX9_go_34 : decode cX9_go 34 = .ok (.invokevirtual 180, 3) := by decide +kernel
theorem dX9_go_37 : decode cX9_go 37 = .ok (.istore_n 3, 1) := by decide +kernel
theorem dX9_go_38 : decode cX9_go 38 = .ok (.aload_n 0, 1) := by decide +kernel
theorem dX9_go_39 : decode cX9_go 39 = .ok (.getfield 152, 3) := by decide +kernel
theorem dX9_go_42 : decode cX9_go 42 = .ok (.ifCond .ne 14, 3) := by decide +kernel
theorem dX9_go_45 : decode cX9_go 45 = .ok (.iload_n 2, 1) := by decide +kernel
theorem dX9_go_46 : decode cX9_go 46 = .ok (.iconst (-1), 1) := by decide +kernel
theorem dX9_go_47 : decode cX9_go 47 = .ok (.if_icmp .eq 9, 3) := by decide +kernel
theorem dX9_go_50 : decode cX9_go 50 = .ok (.aload_n 0, 1) := by decide +kernel
theorem dX9_go_51 : decode cX9_go 51 = .ok (.iload_n 2, 1) := by decide +kernel
theorem dX9_go_52 : decode cX9_go 52 = .ok (.iload_n 3, 1) := by decide +kernel
theorem dX9_go_53 : decode cX9_go 53 = .ok (.invokevirtual 183, 3) := by decide +kernel
theorem dX9_go_56 : decode cX9_go 56 = .ok (.aload_n 0, 1) := by decide +kernel
theorem dX9_go_57 : decode cX9_go 57 = .ok (.aload_n 0, 1) := by decide +kernel
theorem dX9_go_58 : decode cX9_go 58 = .ok (.getfield 152, 3) := by decide +kernel
theorem dX9_go_61 : decode cX9_go 61 = .ok (.ifCond .ne 7, 3) := by decide +kernel
theorem dX9_go_64 : decode cX9_go 64 = .ok (.iload_n 3, 1) := by decide +kernel
theorem dX9_go_65 : decode cX9_go 65 = .ok (.goto 4, 3) := by decide +kernel
theorem dX9_go_68 : decode cX9_go 68 = .ok (.iconst 0, 1) := by decide +kernel
theorem dX9_go_69 : decode cX9_go 69 = .ok (.putfield 186, 3) := by decide +kernel
theorem dX9_go_72 : decode cX9_go 72 = .ok (.return_, 1) := by decide +kernel
theorem dX9_go_73 : decode cX9_go 73 = .ok (.aload_n 0, 1) := by decide +kernel
theorem dX9_go_74 : decode cX9_go 74 = .ok (.getfield 161, 3) := by decide +kernel
theorem dX9_go_77 : decode cX9_go 77 = .ok (.bipush 12, 2) := by decide +kernel
theorem dX9_go_79 : decode cX9_go 79 = .ok (.if_icmp .ne 9, 3) := by decide +kernel
theorem dX9_go_82 : decode cX9_go 82 = .ok (.aload_n 0, 1) := by decide +kernel
theorem dX9_go_83 : decode cX9_go 83 = .ok (.iconst 4, 1) := by decide +kernel
theorem dX9_go_84 : decode cX9_go 84 = .ok (.invokevirtual 167, 3) := by decide +kernel
theorem dX9_go_87 : decode cX9_go 87 = .ok (.return_, 1) := by decide +kernel
theorem dX9_go_88 : decode cX9_go 88 = .ok (.iload_n 1, 1) := by decide +kernel
theorem dX9_go_89 : decode cX9_go 89 = .ok (.invokestatic 140, 3) := by decide +kernel
theorem dX9_go_92 : decode cX9_go 92 = .ok (.ifCond .eq 14, 3) := by decide +kernel
theorem dX9_go_95 : decode cX9_go 95 = .ok (.aload_n 0, 1) := by decide +kernel
theorem dX9_go_96 : decode cX9_go 96 = .ok (.getfield 7, 3) := by decide +kernel
theorem dX9_go_99 : decode cX9_go 99 = .ok (.iload_n 1, 1) := by decide +kernel
theorem dX9_go_100 : decode cX9_go 100 = .ok (.iaload, 1) := by decide +kernel
theorem dX9_go_101 : decode cX9_go 101 = .ok (.bipush 8, 2) := by decide +kernel
theorem dX9_go_103 : decode cX9_go 103 = .ok (.if_icmp .le 9, 3) := by decide +kernel
theorem dX9_go_106 : decode cX9_go 106 = .ok (.aload_n 0, 1) := by decide +kernel
theorem dX9_go_107 : decode cX9_go 107 = .ok (.iconst 3, 1) := by decide +kernel
theorem dX9_go_108 : decode cX9_go 108 = .ok (.invokevirtual 167, 3) := by decide +kernel
theorem dX9_go_111 : decode cX9_go 111 = .ok (.return_, 1) := by decide +kernel
theorem dX9_go_112 : decode cX9_go 112 = .ok (.aload_n 0, 1) := by decide +kernel
theorem dX9_go_113 : decode cX9_go 113 = .ok (.getfield 44, 3) := by decide +kernel
theorem dX9_go_116 : decode cX9_go 116 = .ok (.aload_n 0, 1) := by decide +kernel
theorem dX9_go_117 : decode cX9_go 117 = .ok (.getfield 161, 3) := by decide +kernel
theorem dX9_go_120 : decode cX9_go 120 = .ok (.iload_n 1, 1) := by decide +kernel
theorem dX9_go_121 : decode cX9_go 121 = .ok (.iastore, 1) := by decide +kernel
theorem dX9_go_122 : decode cX9_go 122 = .ok (.aload_n 0, 1) := by decide +kernel
theorem dX9_go_123 : decode cX9_go 123 = .ok (.getfield 47, 3) := by decide +kernel
theorem dX9_go_126 : decode cX9_go 126 = .ok (.aload_n 0, 1) := by decide +kernel
theorem dX9_go_127 : decode cX9_go 127 = .ok (.getfield 161, 3) := by decide +kernel
theorem dX9_go_130 : decode cX9_go 130 = .ok (.iload_n 1, 1) := by decide +kernel
theorem dX9_go_131 : decode cX9_go 131 = .ok (.iconst 1, 1) := by decide +kernel
theorem dX9_go_132 : decode cX9_go 132 = .ok (.iadd, 1) := by decide +kernel
theorem dX9_go_133 : decode cX9_go 133 = .ok (.iastore, 1) := by decide +kernel
theorem dX9_go_134 : decode cX9_go 134 = .ok (.aload_n 0, 1) := by decide +kernel
theorem dX9_go_135 : decode cX9_go 135 = .ok (.getfield 50, 3) := by decide +kernel
theorem dX9_go_138 : decode cX9_go 138 = .ok (.aload_n 0, 1) := by decide +kernel
theorem dX9_go_139 : decode cX9_go 139 = .ok (.getfield 161, 3) := by decide +kernel
theorem dX9_go_142 : decode cX9_go 142 = .ok (.aload_n 0, 1) := by decide +kernel
theorem dX9_go_143 : decode cX9_go 143 = .ok (.getfield 7, 3) := by decide +kernel
theorem dX9_go_146 : decode cX9_go 146 = .ok (.iload_n 1, 1) := by decide +kernel
theorem dX9_go_147 : decode cX9_go 147 = .ok (.iaload, 1) := by decide +kernel
theorem dX9_go_148 : decode cX9_go 148 = .ok (.iastore, 1) := by decide +kernel
theorem dX9_go_149 : decode cX9_go 149 = .ok (.aload_n 0, 1) := by decide +kernel
theorem dX9_go_150 : decode cX9_go 150 = .ok (.getfield 53, 3) := by decide +kernel
theorem dX9_go_153 : decode cX9_go 153 = .ok (.aload_n 0, 1) := by decide +kernel
theorem dX9_go_154 : decode cX9_go 154 = .ok (.getfield 161, 3) := by decide +kernel
theorem dX9_go_157 : decode cX9_go 157 = .ok (.iconst 0, 1) := by decide +kernel
theorem dX9_go_158 : decode cX9_go 158 = .ok (.iastore, 1) := by decide +kernel
theorem dX9_go_159 : decode cX9_go 159 = .ok (.aload_n 0, 1) := by decide +kernel
theorem dX9_go_160 : decode cX9_go 160 = .ok (.getfield 56, 3) := by decide +kernel
theorem dX9_go_163 : decode cX9_go 163 = .ok (.aload_n 0, 1) := by decide +kernel
theorem dX9_go_164 : decode cX9_go 164 = .ok (.getfield 161, 3) := by decide +kernel
theorem dX9_go_167 : decode cX9_go 167 = .ok (.iload_n 2, 1) := by decide +kernel
theorem dX9_go_168 : decode cX9_go 168 = .ok (.iastore, 1) := by decide +kernel
theorem dX9_go_169 : decode cX9_go 169 = .ok (.aload_n 0, 1) := by decide +kernel
theorem dX9_go_170 : decode cX9_go 170 = .ok (.getfield 189, 3) := by decide +kernel
theorem dX9_go_173 : decode cX9_go 173 = .ok (.ifCond .eq 11, 3) := by decide +kernel
theorem dX9_go_176 : decode cX9_go 176 = .ok (.aload_n 0, 1) := by decide +kernel
theorem dX9_go_177 : decode cX9_go 177 = .ok (.iload_n 1, 1) := by decide +kernel
theorem dX9_go_178 : decode cX9_go 178 = .ok (.invokevirtual 146, 3) := by decide +kernel
theorem dX9_go_181 : decode cX9_go 181 = .ok (.goto 4, 3) := by decide +kernel
theorem dX9_go_184 : decode cX9_go 184 = .ok (.iconst (-1), 1) := by decide +kernel
theorem dX9_go_185 : decode cX9_go 185 = .ok (.istore_n 3, 1) := by decide +kernel
theorem dX9_go_186 : decode cX9_go 186 = .ok (.aload_n 0, 1) := by decide +kernel
theorem dX9_go_187 : decode cX9_go 187 = .ok (.getfield 59, 3) := by decide +kernel
theorem dX9_go_190 : decode cX9_go 190 = .ok (.aload_n 0, 1) := by decide +kernel
theorem dX9_go_191 : decode cX9_go 191 = .ok (.getfield 161, 3) := by decide +kernel
theorem dX9_go_194 : decode cX9_go 194 = .ok (.iload_n 3, 1) := by decide +kernel
theorem dX9_go_195 : decode cX9_go 195 = .ok (.iconst (-1), 1) := by decide +kernel
theorem dX9_go_196 : decode cX9_go 196 = .ok (.if_icmp .ne 7, 3) := by decide +kernel
theorem dX9_go_199 : decode cX9_go 199 = .ok (.iconst (-1), 1) := by decide +kernel
theorem dX9_go_200 : decode cX9_go 200 = .ok (.goto 9, 3) := by decide +kernel
theorem dX9_go_203 : decode cX9_go 203 = .ok (.aload_n 0, 1) := by decide +kernel
theorem dX9_go_204 : decode cX9_go 204 = .ok (.getfield 28, 3) := by decide +kernel
theorem dX9_go_207 : decode cX9_go 207 = .ok (.iload_n 3, 1) := by decide +kernel
theorem dX9_go_208 : decode cX9_go 208 = .ok (.iaload, 1) := by decide +kernel
theorem dX9_go_209 : decode cX9_go 209 = .ok (.iastore, 1) := by decide +kernel
theorem dX9_go_210 : decode cX9_go 210 = .ok (.iconst 0, 1) := by decide +kernel
theorem dX9_go_211 : decode cX9_go 211 = .ok (.istore 4, 2) := by decide +kernel
theorem dX9_go_213 : decode cX9_go 213 = .ok (.iload 4, 2) := by decide +kernel
theorem dX9_go_215 : decode cX9_go 215 = .ok (.bipush 8, 2) := by decide +kernel
theorem dX9_go_217 : decode cX9_go 217 = .ok (.if_icmp .ge 55, 3) := by decide +kernel
theorem dX9_go_220 : decode cX9_go 220 = .ok (.aload_n 0, 1) := by decide +kernel
theorem dX9_go_221 : decode cX9_go 221 = .ok (.getfield 62, 3) := by decide +kernel
theorem dX9_go_224 : decode cX9_go 224 = .ok (.bipush 8, 2) := by decide +kernel
theorem dX9_go_226 : decode cX9_go 226 = .ok (.aload_n 0, 1) := by decide +kernel
theorem dX9_go_227 : decode cX9_go 227 = .ok (.getfield 161, 3) := by decide +kernel
theorem dX9_go_230 : decode cX9_go 230 = .ok (.imul, 1) := by decide +kernel
theorem dX9_go_231 : decode cX9_go 231 = .ok (.iload 4, 2) := by decide +kernel
theorem dX9_go_233 : decode cX9_go 233 = .ok (.iadd, 1) := by decide +kernel
theorem dX9_go_234 : decode cX9_go 234 = .ok (.iload 4, 2) := by decide +kernel
theorem dX9_go_236 : decode cX9_go 236 = .ok (.aload_n 0, 1) := by decide +kernel
theorem dX9_go_237 : decode cX9_go 237 = .ok (.getfield 173, 3) := by decide +kernel
theorem dX9_go_240 : decode cX9_go 240 = .ok (.if_icmp .ge 24, 3) := by decide +kernel
theorem dX9_go_243 : decode cX9_go 243 = .ok (.iload 4, 2) := by decide +kernel
theorem dX9_go_245 : decode cX9_go 245 = .ok (.aload_n 0, 1) := by decide +kernel
theorem dX9_go_246 : decode cX9_go 246 = .ok (.getfield 7, 3) := by decide +kernel
theorem dX9_go_249 : decode cX9_go 249 = .ok (.iload_n 1, 1) := by decide +kernel
theorem dX9_go_250 : decode cX9_go 250 = .ok (.iaload, 1) := by decide +kernel
theorem dX9_go_251 : decode cX9_go 251 = .ok (.if_icmp .ge 13, 3) := by decide +kernel
theorem dX9_go_254 : decode cX9_go 254 = .ok (.aload_n 0, 1) := by decide +kernel
theorem dX9_go_255 : decode cX9_go 255 = .ok (.getfield 65, 3) := by decide +kernel
theorem dX9_go_258 : decode cX9_go 258 = .ok (.iload 4, 2) := by decide +kernel
theorem dX9_go_260 : decode cX9_go 260 = .ok (.iaload, 1) := by decide +kernel
theorem dX9_go_261 : decode cX9_go 261 = .ok (.goto 4, 3) := by decide +kernel
theorem dX9_go_264 : decode cX9_go 264 = .ok (.iconst 0, 1) := by decide +kernel
theorem dX9_go_265 : decode cX9_go 265 = .ok (.iastore, 1) := by decide +kernel
theorem dX9_go_266 : decode cX9_go 266 = .ok (.iinc 4 1, 3) := by decide +kernel
theorem dX9_go_269 : decode cX9_go 269 = .ok (.goto (-56), 3) := by decide +kernel
theorem dX9_go_272 : decode cX9_go 272 = .ok (.aload_n 0, 1) := by decide +kernel
theorem dX9_go_273 : decode cX9_go 273 = .ok (.dup, 1) := by decide +kernel
theorem dX9_go_274 : decode cX9_go 274 = .ok (.getfield 161, 3) := by decide +kernel
theorem dX9_go_277 : decode cX9_go 277 = .ok (.iconst 1, 1) := by decide +kernel
theorem dX9_go_278 : decode cX9_go 278 = .ok (.iadd, 1) := by decide +kernel
theorem dX9_go_279 : decode cX9_go 279 = .ok (.putfield 161, 3) := by decide +kernel
theorem dX9_go_282 : decode cX9_go 282 = .ok (.aload_n 0, 1) := by decide +kernel
theorem dX9_go_283 : decode cX9_go 283 = .ok (.dup, 1) := by decide +kernel
theorem dX9_go_284 : decode cX9_go 284 = .ok (.getfield 193, 3) := by decide +kernel
theorem dX9_go_287 : decode cX9_go 287 = .ok (.iconst 1, 1) := by decide +kernel
theorem dX9_go_288 : decode cX9_go 288 = .ok (.iadd, 1) := by decide +kernel
theorem dX9_go_289 : decode cX9_go 289 = .ok (.putfield 193, 3) := by decide +kernel
theorem dX9_go_292 : decode cX9_go 292 = .ok (.aload_n 0, 1) := by decide +kernel
theorem dX9_go_293 : decode cX9_go 293 = .ok (.dup, 1) := by decide +kernel
theorem dX9_go_294 : decode cX9_go 294 = .ok (.getfield 196, 3) := by decide +kernel
theorem dX9_go_297 : decode cX9_go 297 = .ok (.iload_n 3, 1) := by decide +kernel
theorem dX9_go_298 : decode cX9_go 298 = .ok (.iconst (-1), 1) := by decide +kernel
theorem dX9_go_299 : decode cX9_go 299 = .ok (.if_icmp .ne 7, 3) := by decide +kernel
theorem dX9_go_302 : decode cX9_go 302 = .ok (.iconst 0, 1) := by decide +kernel
theorem dX9_go_303 : decode cX9_go 303 = .ok (.goto 4, 3) := by decide +kernel
theorem dX9_go_306 : decode cX9_go 306 = .ok (.iconst 1, 1) := by decide +kernel
theorem dX9_go_307 : decode cX9_go 307 = .ok (.iadd, 1) := by decide +kernel
theorem dX9_go_308 : decode cX9_go 308 = .ok (.putfield 196, 3) := by decide +kernel
theorem dX9_go_311 : decode cX9_go 311 = .ok (.return_, 1) := by decide +kernel
theorem dX9_isMade_0 : decode cX9_isMade 0 = .ok (.iconst 0, 1) := by decide +kernel
theorem dX9_isMade_1 : decode cX9_isMade 1 = .ok (.istore_n 1, 1) := by decide +kernel
theorem dX9_isMade_2 : decode cX9_isMade 2 = .ok (.iload_n 1, 1) := by decide +kernel
theorem dX9_isMade_3 : decode cX9_isMade 3 = .ok (.aload_n 0, 1) := by decide +kernel
theorem dX9_isMade_4 : decode cX9_isMade 4 = .ok (.getfield 80, 3) := by decide +kernel
theorem dX9_isMade_7 : decode cX9_isMade 7 = .ok (.if_icmp .ge 31, 3) := by decide +kernel
theorem dX9_isMade_10 : decode cX9_isMade 10 = .ok (.aload_n 0, 1) := by decide +kernel
theorem dX9_isMade_11 : decode cX9_isMade 11 = .ok (.getfield 28, 3) := by decide +kernel
theorem dX9_isMade_14 : decode cX9_isMade 14 = .ok (.iload_n 1, 1) := by decide +kernel
theorem dX9_isMade_15 : decode cX9_isMade 15 = .ok (.iaload, 1) := by decide +kernel
theorem dX9_isMade_16 : decode cX9_isMade 16 = .ok (.aload_n 0, 1) := by decide +kernel
theorem dX9_isMade_17 : decode cX9_isMade 17 = .ok (.getfield 59, 3) := by decide +kernel
theorem dX9_isMade_20 : decode cX9_isMade 20 = .ok (.aload_n 0, 1) := by decide +kernel
theorem dX9_isMade_21 : decode cX9_isMade 21 = .ok (.getfield 161, 3) := by decide +kernel
theorem dX9_isMade_24 : decode cX9_isMade 24 = .ok (.iconst 1, 1) := by decide +kernel
theorem dX9_isMade_25 : decode cX9_isMade 25 = .ok (.isub, 1) := by decide +kernel
theorem dX9_isMade_26 : decode cX9_isMade 26 = .ok (.iaload, 1) := by decide +kernel
theorem dX9_isMade_27 : decode cX9_isMade 27 = .ok (.if_icmp .ne 5, 3) := by decide +kernel
theorem dX9_isMade_30 : decode cX9_isMade 30 = .ok (.iconst 1, 1) := by decide +kernel
theorem dX9_isMade_31 : decode cX9_isMade 31 = .ok (.ireturn, 1) := by decide +kernel
theorem dX9_isMade_32 : decode cX9_isMade 32 = .ok (.iinc 1 1, 3) := by decide +kernel
theorem dX9_isMade_35 : decode cX9_isMade 35 = .ok (.goto (-33), 3) := by decide +kernel
theorem dX9_isMade_38 : decode cX9_isMade 38 = .ok (.iconst 0, 1) := by decide +kernel
theorem dX9_isMade_39 : decode cX9_isMade 39 = .ok (.ireturn, 1) := by decide +kernel
theorem dX9_ends_0 : decode cX9_ends 0 = .ok (.aload_n 0, 1) := by decide +kernel
theorem dX9_ends_1 : decode cX9_ends 1 = .ok (.getfield 56, 3) := by decide +kernel
theorem dX9_ends_4 : decode cX9_ends 4 = .ok (.aload_n 0, 1) := by decide +kernel
theorem dX9_ends_5 : decode cX9_ends 5 = .ok (.getfield 161, 3) := by decide +kernel
theorem dX9_ends_8 : decode cX9_ends 8 = .ok (.iconst 1, 1) := by decide +kernel
theorem dX9_ends_9 : decode cX9_ends 9 = .ok (.isub, 1) := by decide +kernel
theorem dX9_ends_10 : decode cX9_ends 10 = .ok (.iaload, 1) := by decide +kernel
theorem dX9_ends_11 : decode cX9_ends 11 = .ok (.istore_n 2, 1) := by decide +kernel
theorem dX9_ends_12 : decode cX9_ends 12 = .ok (.aload_n 0, 1) := by decide +kernel
theorem dX9_ends_13 : decode cX9_ends 13 = .ok (.dup, 1) := by decide +kernel
theorem dX9_ends_14 : decode cX9_ends 14 = .ok (.getfield 161, 3) := by decide +kernel
theorem dX9_ends_17 : decode cX9_ends 17 = .ok (.iconst 1, 1) := by decide +kernel
theorem dX9_ends_18 : decode cX9_ends 18 = .ok (.isub, 1) := by decide +kernel
theorem dX9_ends_19 : decode cX9_ends 19 = .ok (.putfield 161, 3) := by decide +kernel
theorem dX9_ends_22 : decode cX9_ends 22 = .ok (.aload_n 0, 1) := by decide +kernel
theorem dX9_ends_23 : decode cX9_ends 23 = .ok (.getfield 161, 3) := by decide +kernel
theorem dX9_ends_26 : decode cX9_ends 26 = .ok (.ifCond .ne 11, 3) := by decide +kernel
theorem dX9_ends_29 : decode cX9_ends 29 = .ok (.aload_n 0, 1) := by decide +kernel
theorem dX9_ends_30 : decode cX9_ends 30 = .ok (.iload_n 1, 1) := by decide +kernel
theorem dX9_ends_31 : decode cX9_ends 31 = .ok (.putfield 186, 3) := by decide +kernel
theorem dX9_ends_34 : decode cX9_ends 34 = .ok (.goto 9, 3) := by decide +kernel
theorem dX9_ends_37 : decode cX9_ends 37 = .ok (.aload_n 0, 1) := by decide +kernel
theorem dX9_ends_38 : decode cX9_ends 38 = .ok (.iload_n 2, 1) := by decide +kernel
theorem dX9_ends_39 : decode cX9_ends 39 = .ok (.iload_n 1, 1) := by decide +kernel
theorem dX9_ends_40 : decode cX9_ends 40 = .ok (.invokevirtual 183, 3) := by decide +kernel
theorem dX9_ends_43 : decode cX9_ends 43 = .ok (.return_, 1) := by decide +kernel
theorem dX9_throwing_0 : decode cX9_throwing 0 = .ok (.aload_n 0, 1) := by decide +kernel
theorem dX9_throwing_1 : decode cX9_throwing 1 = .ok (.dup, 1) := by decide +kernel
theorem dX9_throwing_2 : decode cX9_throwing 2 = .ok (.getfield 161, 3) := by decide +kernel
theorem dX9_throwing_5 : decode cX9_throwing 5 = .ok (.iconst 1, 1) := by decide +kernel
theorem dX9_throwing_6 : decode cX9_throwing 6 = .ok (.isub, 1) := by decide +kernel
theorem dX9_throwing_7 : decode cX9_throwing 7 = .ok (.putfield 161, 3) := by decide +kernel
theorem dX9_throwing_10 : decode cX9_throwing 10 = .ok (.aload_n 0, 1) := by decide +kernel
theorem dX9_throwing_11 : decode cX9_throwing 11 = .ok (.getfield 161, 3) := by decide +kernel
theorem dX9_throwing_14 : decode cX9_throwing 14 = .ok (.ifCond .le 30, 3) := by decide +kernel
theorem dX9_throwing_17 : decode cX9_throwing 17 = .ok (.aload_n 0, 1) := by decide +kernel
theorem dX9_throwing_18 : decode cX9_throwing 18 = .ok (.getfield 53, 3) := by decide +kernel
theorem dX9_throwing_21 : decode cX9_throwing 21 = .ok (.aload_n 0, 1) := by decide +kernel
theorem dX9_throwing_22 : decode cX9_throwing 22 = .ok (.getfield 161, 3) := by decide +kernel
theorem dX9_throwing_25 : decode cX9_throwing 25 = .ok (.iconst 1, 1) := by decide +kernel
theorem dX9_throwing_26 : decode cX9_throwing 26 = .ok (.isub, 1) := by decide +kernel
theorem dX9_throwing_27 : decode cX9_throwing 27 = .ok (.iaload, 1) := by decide +kernel
theorem dX9_throwing_28 : decode cX9_throwing 28 = .ok (.ifCond .ne 16, 3) := by decide +kernel
theorem dX9_throwing_31 : decode cX9_throwing 31 = .ok (.aload_n 0, 1) := by decide +kernel
theorem dX9_throwing_32 : decode cX9_throwing 32 = .ok (.dup, 1) := by decide +kernel
theorem dX9_throwing_33 : decode cX9_throwing 33 = .ok (.getfield 161, 3) := by decide +kernel
theorem dX9_throwing_36 : decode cX9_throwing 36 = .ok (.iconst 1, 1) := by decide +kernel
theorem dX9_throwing_37 : decode cX9_throwing 37 = .ok (.isub, 1) := by decide +kernel
theorem dX9_throwing_38 : decode cX9_throwing 38 = .ok (.putfield 161, 3) := by decide +kernel
theorem dX9_throwing_41 : decode cX9_throwing 41 = .ok (.goto (-31), 3) := by decide +kernel
theorem dX9_throwing_44 : decode cX9_throwing 44 = .ok (.aload_n 0, 1) := by decide +kernel
theorem dX9_throwing_45 : decode cX9_throwing 45 = .ok (.getfield 161, 3) := by decide +kernel
theorem dX9_throwing_48 : decode cX9_throwing 48 = .ok (.ifCond .ne 15, 3) := by decide +kernel
theorem dX9_throwing_51 : decode cX9_throwing 51 = .ok (.aload_n 0, 1) := by decide +kernel
theorem dX9_throwing_52 : decode cX9_throwing 52 = .ok (.bipush 6, 2) := by decide +kernel
theorem dX9_throwing_54 : decode cX9_throwing 54 = .ok (.invokevirtual 167, 3) := by decide +kernel
theorem dX9_throwing_57 : decode cX9_throwing 57 = .ok (.aload_n 0, 1) := by decide +kernel
theorem dX9_throwing_58 : decode cX9_throwing 58 = .ok (.iload_n 1, 1) := by decide +kernel
theorem dX9_throwing_59 : decode cX9_throwing 59 = .ok (.putfield 199, 3) := by decide +kernel
theorem dX9_throwing_62 : decode cX9_throwing 62 = .ok (.return_, 1) := by decide +kernel
theorem dX9_throwing_63 : decode cX9_throwing 63 = .ok (.aload_n 0, 1) := by decide +kernel
theorem dX9_throwing_64 : decode cX9_throwing 64 = .ok (.dup, 1) := by decide +kernel
theorem dX9_throwing_65 : decode cX9_throwing 65 = .ok (.getfield 202, 3) := by decide +kernel
theorem dX9_throwing_68 : decode cX9_throwing 68 = .ok (.iconst 1, 1) := by decide +kernel
theorem dX9_throwing_69 : decode cX9_throwing 69 = .ok (.iadd, 1) := by decide +kernel
theorem dX9_throwing_70 : decode cX9_throwing 70 = .ok (.putfield 202, 3) := by decide +kernel
theorem dX9_throwing_73 : decode cX9_throwing 73 = .ok (.aload_n 0, 1) := by decide +kernel
theorem dX9_throwing_74 : decode cX9_throwing 74 = .ok (.getfield 13, 3) := by decide +kernel
theorem dX9_throwing_77 : decode cX9_throwing 77 = .ok (.bipush 7, 2) := by decide +kernel
theorem dX9_throwing_79 : decode cX9_throwing 79 = .ok (.iload_n 1, 1) := by decide +kernel
theorem dX9_throwing_80 : decode cX9_throwing 80 = .ok (.iastore, 1) := by decide +kernel
theorem dX9_throwing_81 : decode cX9_throwing 81 = .ok (.aload_n 0, 1) := by decide +kernel
theorem dX9_throwing_82 : decode cX9_throwing 82 = .ok (.getfield 47, 3) := by decide +kernel
theorem dX9_throwing_85 : decode cX9_throwing 85 = .ok (.aload_n 0, 1) := by decide +kernel
theorem dX9_throwing_86 : decode cX9_throwing 86 = .ok (.getfield 161, 3) := by decide +kernel
theorem dX9_throwing_89 : decode cX9_throwing 89 = .ok (.iconst 1, 1) := by decide +kernel
theorem dX9_throwing_90 : decode cX9_throwing 90 = .ok (.isub, 1) := by decide +kernel
theorem dX9_throwing_91 : decode cX9_throwing 91 = .ok (.aload_n 0, 1) := by decide +kernel
theorem dX9_throwing_92 : decode cX9_throwing 92 = .ok (.getfield 44, 3) := by decide +kernel
theorem dX9_throwing_95 : decode cX9_throwing 95 = .ok (.aload_n 0, 1) := by decide +kernel
theorem dX9_throwing_96 : decode cX9_throwing 96 = .ok (.getfield 161, 3) := by decide +kernel
theorem dX9_throwing_99 : decode cX9_throwing 99 = .ok (.iconst 1, 1) := by decide +kernel
theorem dX9_throwing_100 : decode cX9_throwing 100 = .ok (.isub, 1) := by decide +kernel
theorem dX9_throwing_101 : decode cX9_throwing 101 = .ok (.iaload, 1) := by decide +kernel
theorem dX9_throwing_102 : decode cX9_throwing 102 = .ok (.aload_n 0, 1) := by decide +kernel
theorem dX9_throwing_103 : decode cX9_throwing 103 = .ok (.getfield 53, 3) := by decide +kernel
theorem dX9_throwing_106 : decode cX9_throwing 106 = .ok (.aload_n 0, 1) := by decide +kernel
theorem dX9_throwing_107 : decode cX9_throwing 107 = .ok (.getfield 161, 3) := by decide +kernel
theorem dX9_throwing_110 : decode cX9_throwing 110 = .ok (.iconst 1, 1) := by decide +kernel
theorem dX9_throwing_111 : decode cX9_throwing 111 = .ok (.isub, 1) := by decide +kernel
end
section
theorem dX9_throwing_112 : decode cX9_throwing 112 = .ok (.iaload, 1) := by decide +kernel
theorem dX9_throwing_113 : decode cX9_throwing 113 = .ok (.iadd, 1) := by decide +kernel
theorem dX9_throwing_114 : decode cX9_throwing 114 = .ok (.iastore, 1) := by decide +kernel
theorem dX9_throwing_115 : decode cX9_throwing 115 = .ok (.return_, 1) := by decide +kernel
theorem dX9_reckon_0 : decode cX9_reckon 0 = .ok (.aload_n 0, 1) := by decide +kernel
theorem dX9_reckon_1 : decode cX9_reckon 1 = .ok (.getfield 35, 3) := by decide +kernel
theorem dX9_reckon_4 : decode cX9_reckon 4 = .ok (.iconst 0, 1) := by decide +kernel
theorem dX9_reckon_5 : decode cX9_reckon 5 = .ok (.iaload, 1) := by decide +kernel
theorem dX9_reckon_6 : decode cX9_reckon 6 = .ok (.istore_n 3, 1) := by decide +kernel
theorem dX9_reckon_7 : decode cX9_reckon 7 = .ok (.aload_n 0, 1) := by decide +kernel
theorem dX9_reckon_8 : decode cX9_reckon 8 = .ok (.getfield 127, 3) := by decide +kernel
theorem dX9_reckon_11 : decode cX9_reckon 11 = .ok (.tableswitch 52 2 4 #[25, 34, 43], 25) := by decide +kernel
theorem dX9_reckon_36 : decode cX9_reckon 36 = .ok (.aload_n 0, 1) := by decide +kernel
theorem dX9_reckon_37 : decode cX9_reckon 37 = .ok (.iload_n 3, 1) := by decide +kernel
theorem dX9_reckon_38 : decode cX9_reckon 38 = .ok (.iload_n 1, 1) := by decide +kernel
theorem dX9_reckon_39 : decode cX9_reckon 39 = .ok (.iload_n 2, 1) := by decide +kernel
theorem dX9_reckon_40 : decode cX9_reckon 40 = .ok (.iadd, 1) := by decide +kernel
theorem dX9_reckon_41 : decode cX9_reckon 41 = .ok (.invokevirtual 183, 3) := by decide +kernel
theorem dX9_reckon_44 : decode cX9_reckon 44 = .ok (.return_, 1) := by decide +kernel
theorem dX9_reckon_45 : decode cX9_reckon 45 = .ok (.aload_n 0, 1) := by decide +kernel
theorem dX9_reckon_46 : decode cX9_reckon 46 = .ok (.iload_n 3, 1) := by decide +kernel
theorem dX9_reckon_47 : decode cX9_reckon 47 = .ok (.iload_n 1, 1) := by decide +kernel
theorem dX9_reckon_48 : decode cX9_reckon 48 = .ok (.iload_n 2, 1) := by decide +kernel
theorem dX9_reckon_49 : decode cX9_reckon 49 = .ok (.isub, 1) := by decide +kernel
theorem dX9_reckon_50 : decode cX9_reckon 50 = .ok (.invokevirtual 183, 3) := by decide +kernel
theorem dX9_reckon_53 : decode cX9_reckon 53 = .ok (.return_, 1) := by decide +kernel
theorem dX9_reckon_54 : decode cX9_reckon 54 = .ok (.aload_n 0, 1) := by decide +kernel
theorem dX9_reckon_55 : decode cX9_reckon 55 = .ok (.iload_n 3, 1) := by decide +kernel
theorem dX9_reckon_56 : decode cX9_reckon 56 = .ok (.iload_n 1, 1) := by decide +kernel
theorem dX9_reckon_57 : decode cX9_reckon 57 = .ok (.iload_n 2, 1) := by decide +kernel
theorem dX9_reckon_58 : decode cX9_reckon 58 = .ok (.imul, 1) := by decide +kernel
theorem dX9_reckon_59 : decode cX9_reckon 59 = .ok (.invokevirtual 183, 3) := by decide +kernel
theorem dX9_reckon_62 : decode cX9_reckon 62 = .ok (.return_, 1) := by decide +kernel
theorem dX9_reckon_63 : decode cX9_reckon 63 = .ok (.iload_n 2, 1) := by decide +kernel
theorem dX9_reckon_64 : decode cX9_reckon 64 = .ok (.ifCond .ne 11, 3) := by decide +kernel
theorem dX9_reckon_67 : decode cX9_reckon 67 = .ok (.aload_n 0, 1) := by decide +kernel
theorem dX9_reckon_68 : decode cX9_reckon 68 = .ok (.iconst 2, 1) := by decide +kernel
theorem dX9_reckon_69 : decode cX9_reckon 69 = .ok (.invokevirtual 167, 3) := by decide +kernel
theorem dX9_reckon_72 : decode cX9_reckon 72 = .ok (.goto 25, 3) := by decide +kernel
theorem dX9_reckon_75 : decode cX9_reckon 75 = .ok (.aload_n 0, 1) := by decide +kernel
theorem dX9_reckon_76 : decode cX9_reckon 76 = .ok (.iload_n 3, 1) := by decide +kernel
theorem dX9_reckon_77 : decode cX9_reckon 77 = .ok (.aload_n 0, 1) := by decide +kernel
theorem dX9_reckon_78 : decode cX9_reckon 78 = .ok (.getfield 127, 3) := by decide +kernel
theorem dX9_reckon_81 : decode cX9_reckon 81 = .ok (.iconst 5, 1) := by decide +kernel
theorem dX9_reckon_82 : decode cX9_reckon 82 = .ok (.if_icmp .ne 9, 3) := by decide +kernel
theorem dX9_reckon_85 : decode cX9_reckon 85 = .ok (.iload_n 1, 1) := by decide +kernel
theorem dX9_reckon_86 : decode cX9_reckon 86 = .ok (.iload_n 2, 1) := by decide +kernel
theorem dX9_reckon_87 : decode cX9_reckon 87 = .ok (.idiv, 1) := by decide +kernel
theorem dX9_reckon_88 : decode cX9_reckon 88 = .ok (.goto 6, 3) := by decide +kernel
theorem dX9_reckon_91 : decode cX9_reckon 91 = .ok (.iload_n 1, 1) := by decide +kernel
theorem dX9_reckon_92 : decode cX9_reckon 92 = .ok (.iload_n 2, 1) := by decide +kernel
theorem dX9_reckon_93 : decode cX9_reckon 93 = .ok (.irem, 1) := by decide +kernel
theorem dX9_reckon_94 : decode cX9_reckon 94 = .ok (.invokevirtual 183, 3) := by decide +kernel
theorem dX9_reckon_97 : decode cX9_reckon 97 = .ok (.return_, 1) := by decide +kernel
theorem dX9_jump_0 : decode cX9_jump 0 = .ok (.iload_n 1, 1) := by decide +kernel
theorem dX9_jump_1 : decode cX9_jump 1 = .ok (.ifCond .eq 27, 3) := by decide +kernel
theorem dX9_jump_4 : decode cX9_jump 4 = .ok (.aload_n 0, 1) := by decide +kernel
theorem dX9_jump_5 : decode cX9_jump 5 = .ok (.getfield 47, 3) := by decide +kernel
theorem dX9_jump_8 : decode cX9_jump 8 = .ok (.aload_n 0, 1) := by decide +kernel
theorem dX9_jump_9 : decode cX9_jump 9 = .ok (.getfield 161, 3) := by decide +kernel
theorem dX9_jump_12 : decode cX9_jump 12 = .ok (.iconst 1, 1) := by decide +kernel
theorem dX9_jump_13 : decode cX9_jump 13 = .ok (.isub, 1) := by decide +kernel
theorem dX9_jump_14 : decode cX9_jump 14 = .ok (.aload_n 0, 1) := by decide +kernel
theorem dX9_jump_15 : decode cX9_jump 15 = .ok (.getfield 44, 3) := by decide +kernel
theorem dX9_jump_18 : decode cX9_jump 18 = .ok (.aload_n 0, 1) := by decide +kernel
theorem dX9_jump_19 : decode cX9_jump 19 = .ok (.getfield 161, 3) := by decide +kernel
theorem dX9_jump_22 : decode cX9_jump 22 = .ok (.iconst 1, 1) := by decide +kernel
theorem dX9_jump_23 : decode cX9_jump 23 = .ok (.isub, 1) := by decide +kernel
theorem dX9_jump_24 : decode cX9_jump 24 = .ok (.iaload, 1) := by decide +kernel
theorem dX9_jump_25 : decode cX9_jump 25 = .ok (.iload_n 2, 1) := by decide +kernel
theorem dX9_jump_26 : decode cX9_jump 26 = .ok (.iadd, 1) := by decide +kernel
theorem dX9_jump_27 : decode cX9_jump 27 = .ok (.iastore, 1) := by decide +kernel
theorem dX9_jump_28 : decode cX9_jump 28 = .ok (.return_, 1) := by decide +kernel
theorem dX9_doIt_0 : decode cX9_doIt 0 = .ok (.aload_n 0, 1) := by decide +kernel
theorem dX9_doIt_1 : decode cX9_doIt 1 = .ok (.getfield 124, 3) := by decide +kernel
theorem dX9_doIt_4 : decode cX9_doIt 4 = .ok (.ifCond .le 28, 3) := by decide +kernel
theorem dX9_doIt_7 : decode cX9_doIt 7 = .ok (.aload_n 0, 1) := by decide +kernel
theorem dX9_doIt_8 : decode cX9_doIt 8 = .ok (.getfield 35, 3) := by decide +kernel
theorem dX9_doIt_11 : decode cX9_doIt 11 = .ok (.iconst 0, 1) := by decide +kernel
theorem dX9_doIt_12 : decode cX9_doIt 12 = .ok (.iaload, 1) := by decide +kernel
theorem dX9_doIt_13 : decode cX9_doIt 13 = .ok (.sipush 144, 3) := by decide +kernel
theorem dX9_doIt_16 : decode cX9_doIt 16 = .ok (.if_icmp .ge 16, 3) := by decide +kernel
theorem dX9_doIt_19 : decode cX9_doIt 19 = .ok (.aload_n 0, 1) := by decide +kernel
theorem dX9_doIt_20 : decode cX9_doIt 20 = .ok (.aload_n 0, 1) := by decide +kernel
theorem dX9_doIt_21 : decode cX9_doIt 21 = .ok (.getfield 35, 3) := by decide +kernel
theorem dX9_doIt_24 : decode cX9_doIt 24 = .ok (.iconst 0, 1) := by decide +kernel
theorem dX9_doIt_25 : decode cX9_doIt 25 = .ok (.iaload, 1) := by decide +kernel
theorem dX9_doIt_26 : decode cX9_doIt 26 = .ok (.invokevirtual 205, 3) := by decide +kernel
theorem dX9_doIt_29 : decode cX9_doIt 29 = .ok (.goto 4, 3) := by decide +kernel
theorem dX9_doIt_32 : decode cX9_doIt 32 = .ok (.iconst 0, 1) := by decide +kernel
theorem dX9_doIt_33 : decode cX9_doIt 33 = .ok (.istore_n 1, 1) := by decide +kernel
theorem dX9_doIt_34 : decode cX9_doIt 34 = .ok (.aload_n 0, 1) := by decide +kernel
theorem dX9_doIt_35 : decode cX9_doIt 35 = .ok (.getfield 124, 3) := by decide +kernel
theorem dX9_doIt_38 : decode cX9_doIt 38 = .ok (.iconst 1, 1) := by decide +kernel
theorem dX9_doIt_39 : decode cX9_doIt 39 = .ok (.if_icmp .le 28, 3) := by decide +kernel
theorem dX9_doIt_42 : decode cX9_doIt 42 = .ok (.aload_n 0, 1) := by decide +kernel
theorem dX9_doIt_43 : decode cX9_doIt 43 = .ok (.getfield 35, 3) := by decide +kernel
theorem dX9_doIt_46 : decode cX9_doIt 46 = .ok (.iconst 1, 1) := by decide +kernel
theorem dX9_doIt_47 : decode cX9_doIt 47 = .ok (.iaload, 1) := by decide +kernel
theorem dX9_doIt_48 : decode cX9_doIt 48 = .ok (.sipush 144, 3) := by decide +kernel
theorem dX9_doIt_51 : decode cX9_doIt 51 = .ok (.if_icmp .ge 16, 3) := by decide +kernel
theorem dX9_doIt_54 : decode cX9_doIt 54 = .ok (.aload_n 0, 1) := by decide +kernel
theorem dX9_doIt_55 : decode cX9_doIt 55 = .ok (.aload_n 0, 1) := by decide +kernel
theorem dX9_doIt_56 : decode cX9_doIt 56 = .ok (.getfield 35, 3) := by decide +kernel
theorem dX9_doIt_59 : decode cX9_doIt 59 = .ok (.iconst 1, 1) := by decide +kernel
theorem dX9_doIt_60 : decode cX9_doIt 60 = .ok (.iaload, 1) := by decide +kernel
theorem dX9_doIt_61 : decode cX9_doIt 61 = .ok (.invokevirtual 205, 3) := by decide +kernel
theorem dX9_doIt_64 : decode cX9_doIt 64 = .ok (.goto 4, 3) := by decide +kernel
theorem dX9_doIt_67 : decode cX9_doIt 67 = .ok (.iconst 0, 1) := by decide +kernel
theorem dX9_doIt_68 : decode cX9_doIt 68 = .ok (.istore_n 2, 1) := by decide +kernel
theorem dX9_doIt_69 : decode cX9_doIt 69 = .ok (.aload_n 0, 1) := by decide +kernel
theorem dX9_doIt_70 : decode cX9_doIt 70 = .ok (.getfield 127, 3) := by decide +kernel
theorem dX9_doIt_73 : decode cX9_doIt 73 = .ok (.tableswitch 311 0 15 #[79, 85, 311, 311, 311, 311, 311, 97, 130, 154, 166, 187, 208, 281, 287, 305], 79) := by decide +kernel
theorem dX9_doIt_152 : decode cX9_doIt 152 = .ok (.aload_n 0, 1) := by decide +kernel
theorem dX9_doIt_153 : decode cX9_doIt 153 = .ok (.iload_n 1, 1) := by decide +kernel
theorem dX9_doIt_154 : decode cX9_doIt 154 = .ok (.invokevirtual 208, 3) := by decide +kernel
theorem dX9_doIt_157 : decode cX9_doIt 157 = .ok (.return_, 1) := by decide +kernel
theorem dX9_doIt_158 : decode cX9_doIt 158 = .ok (.aload_n 0, 1) := by decide +kernel
theorem dX9_doIt_159 : decode cX9_doIt 159 = .ok (.aload_n 0, 1) := by decide +kernel
theorem dX9_doIt_160 : decode cX9_doIt 160 = .ok (.getfield 35, 3) := by decide +kernel
theorem dX9_doIt_163 : decode cX9_doIt 163 = .ok (.iconst 0, 1) := by decide +kernel
theorem dX9_doIt_164 : decode cX9_doIt 164 = .ok (.iaload, 1) := by decide +kernel
theorem dX9_doIt_165 : decode cX9_doIt 165 = .ok (.iload_n 2, 1) := by decide +kernel
theorem dX9_doIt_166 : decode cX9_doIt 166 = .ok (.invokevirtual 183, 3) := by decide +kernel
theorem dX9_doIt_169 : decode cX9_doIt 169 = .ok (.return_, 1) := by decide +kernel
theorem dX9_doIt_170 : decode cX9_doIt 170 = .ok (.aload_n 0, 1) := by decide +kernel
theorem dX9_doIt_171 : decode cX9_doIt 171 = .ok (.iload_n 2, 1) := by decide +kernel
theorem dX9_doIt_172 : decode cX9_doIt 172 = .ok (.invokevirtual 94, 3) := by decide +kernel
theorem dX9_doIt_175 : decode cX9_doIt 175 = .ok (.ifCond .eq 22, 3) := by decide +kernel
theorem dX9_doIt_178 : decode cX9_doIt 178 = .ok (.aload_n 0, 1) := by decide +kernel
theorem dX9_doIt_179 : decode cX9_doIt 179 = .ok (.aload_n 0, 1) := by decide +kernel
theorem dX9_doIt_180 : decode cX9_doIt 180 = .ok (.getfield 35, 3) := by decide +kernel
theorem dX9_doIt_183 : decode cX9_doIt 183 = .ok (.iconst 0, 1) := by decide +kernel
theorem dX9_doIt_184 : decode cX9_doIt 184 = .ok (.iaload, 1) := by decide +kernel
theorem dX9_doIt_185 : decode cX9_doIt 185 = .ok (.aload_n 0, 1) := by decide +kernel
theorem dX9_doIt_186 : decode cX9_doIt 186 = .ok (.getfield 7, 3) := by decide +kernel
theorem dX9_doIt_189 : decode cX9_doIt 189 = .ok (.iload_n 2, 1) := by decide +kernel
theorem dX9_doIt_190 : decode cX9_doIt 190 = .ok (.iaload, 1) := by decide +kernel
theorem dX9_doIt_191 : decode cX9_doIt 191 = .ok (.invokevirtual 183, 3) := by decide +kernel
theorem dX9_doIt_194 : decode cX9_doIt 194 = .ok (.goto 8, 3) := by decide +kernel
theorem dX9_doIt_197 : decode cX9_doIt 197 = .ok (.aload_n 0, 1) := by decide +kernel
theorem dX9_doIt_198 : decode cX9_doIt 198 = .ok (.iconst 1, 1) := by decide +kernel
theorem dX9_doIt_199 : decode cX9_doIt 199 = .ok (.invokevirtual 167, 3) := by decide +kernel
theorem dX9_doIt_202 : decode cX9_doIt 202 = .ok (.return_, 1) := by decide +kernel
theorem dX9_doIt_203 : decode cX9_doIt 203 = .ok (.aload_n 0, 1) := by decide +kernel
theorem dX9_doIt_204 : decode cX9_doIt 204 = .ok (.iload_n 1, 1) := by decide +kernel
theorem dX9_doIt_205 : decode cX9_doIt 205 = .ok (.invokevirtual 94, 3) := by decide +kernel
theorem dX9_doIt_208 : decode cX9_doIt 208 = .ok (.ifCond .eq 13, 3) := by decide +kernel
theorem dX9_doIt_211 : decode cX9_doIt 211 = .ok (.aload_n 0, 1) := by decide +kernel
theorem dX9_doIt_212 : decode cX9_doIt 212 = .ok (.iload_n 1, 1) := by decide +kernel
theorem dX9_doIt_213 : decode cX9_doIt 213 = .ok (.iload_n 2, 1) := by decide +kernel
theorem dX9_doIt_214 : decode cX9_doIt 214 = .ok (.invokevirtual 98, 3) := by decide +kernel
theorem dX9_doIt_217 : decode cX9_doIt 217 = .ok (.istore_n 3, 1) := by decide +kernel
theorem dX9_doIt_218 : decode cX9_doIt 218 = .ok (.goto 8, 3) := by decide +kernel
theorem dX9_doIt_221 : decode cX9_doIt 221 = .ok (.aload_n 0, 1) := by decide +kernel
theorem dX9_doIt_222 : decode cX9_doIt 222 = .ok (.iconst 1, 1) := by decide +kernel
theorem dX9_doIt_223 : decode cX9_doIt 223 = .ok (.invokevirtual 167, 3) := by decide +kernel
theorem dX9_doIt_226 : decode cX9_doIt 226 = .ok (.return_, 1) := by decide +kernel
theorem dX9_doIt_227 : decode cX9_doIt 227 = .ok (.aload_n 0, 1) := by decide +kernel
theorem dX9_doIt_228 : decode cX9_doIt 228 = .ok (.iconst 1, 1) := by decide +kernel
theorem dX9_doIt_229 : decode cX9_doIt 229 = .ok (.aload_n 0, 1) := by decide +kernel
theorem dX9_doIt_230 : decode cX9_doIt 230 = .ok (.getfield 35, 3) := by decide +kernel
theorem dX9_doIt_233 : decode cX9_doIt 233 = .ok (.iconst 0, 1) := by decide +kernel
theorem dX9_doIt_234 : decode cX9_doIt 234 = .ok (.iaload, 1) := by decide +kernel
theorem dX9_doIt_235 : decode cX9_doIt 235 = .ok (.invokevirtual 211, 3) := by decide +kernel
theorem dX9_doIt_238 : decode cX9_doIt 238 = .ok (.return_, 1) := by decide +kernel
theorem dX9_doIt_239 : decode cX9_doIt 239 = .ok (.aload_n 0, 1) := by decide +kernel
theorem dX9_doIt_240 : decode cX9_doIt 240 = .ok (.iload_n 1, 1) := by decide +kernel
theorem dX9_doIt_241 : decode cX9_doIt 241 = .ok (.iload_n 2, 1) := by decide +kernel
theorem dX9_doIt_242 : decode cX9_doIt 242 = .ok (.if_icmp .ge 7, 3) := by decide +kernel
theorem dX9_doIt_245 : decode cX9_doIt 245 = .ok (.iconst 1, 1) := by decide +kernel
theorem dX9_doIt_246 : decode cX9_doIt 246 = .ok (.goto 4, 3) := by decide +kernel
theorem dX9_doIt_249 : decode cX9_doIt 249 = .ok (.iconst 0, 1) := by decide +kernel
theorem dX9_doIt_250 : decode cX9_doIt 250 = .ok (.aload_n 0, 1) := by decide +kernel
theorem dX9_doIt_251 : decode cX9_doIt 251 = .ok (.getfield 35, 3) := by decide +kernel
theorem dX9_doIt_254 : decode cX9_doIt 254 = .ok (.iconst 2, 1) := by decide +kernel
theorem dX9_doIt_255 : decode cX9_doIt 255 = .ok (.iaload, 1) := by decide +kernel
theorem dX9_doIt_256 : decode cX9_doIt 256 = .ok (.invokevirtual 211, 3) := by decide +kernel
theorem dX9_doIt_259 : decode cX9_doIt 259 = .ok (.return_, 1) := by decide +kernel
theorem dX9_doIt_260 : decode cX9_doIt 260 = .ok (.aload_n 0, 1) := by decide +kernel
theorem dX9_doIt_261 : decode cX9_doIt 261 = .ok (.iload_n 1, 1) := by decide +kernel
theorem dX9_doIt_262 : decode cX9_doIt 262 = .ok (.iload_n 2, 1) := by decide +kernel
theorem dX9_doIt_263 : decode cX9_doIt 263 = .ok (.if_icmp .ne 7, 3) := by decide +kernel
theorem dX9_doIt_266 : decode cX9_doIt 266 = .ok (.iconst 1, 1) := by decide +kernel
theorem dX9_doIt_267 : decode cX9_doIt 267 = .ok (.goto 4, 3) := by decide +kernel
theorem dX9_doIt_270 : decode cX9_doIt 270 = .ok (.iconst 0, 1) := by decide +kernel
theorem dX9_doIt_271 : decode cX9_doIt 271 = .ok (.aload_n 0, 1) := by decide +kernel
theorem dX9_doIt_272 : decode cX9_doIt 272 = .ok (.getfield 35, 3) := by decide +kernel
theorem dX9_doIt_275 : decode cX9_doIt 275 = .ok (.iconst 2, 1) := by decide +kernel
theorem dX9_doIt_276 : decode cX9_doIt 276 = .ok (.iaload, 1) := by decide +kernel
theorem dX9_doIt_277 : decode cX9_doIt 277 = .ok (.invokevirtual 211, 3) := by decide +kernel
theorem dX9_doIt_280 : decode cX9_doIt 280 = .ok (.return_, 1) := by decide +kernel
theorem dX9_doIt_281 : decode cX9_doIt 281 = .ok (.aload_n 0, 1) := by decide +kernel
theorem dX9_doIt_282 : decode cX9_doIt 282 = .ok (.aload_n 0, 1) := by decide +kernel
theorem dX9_doIt_283 : decode cX9_doIt 283 = .ok (.getfield 35, 3) := by decide +kernel
theorem dX9_doIt_286 : decode cX9_doIt 286 = .ok (.iconst 2, 1) := by decide +kernel
theorem dX9_doIt_287 : decode cX9_doIt 287 = .ok (.iaload, 1) := by decide +kernel
theorem dX9_doIt_288 : decode cX9_doIt 288 = .ok (.putfield 173, 3) := by decide +kernel
theorem dX9_doIt_291 : decode cX9_doIt 291 = .ok (.iconst 0, 1) := by decide +kernel
theorem dX9_doIt_292 : decode cX9_doIt 292 = .ok (.istore_n 3, 1) := by decide +kernel
theorem dX9_doIt_293 : decode cX9_doIt 293 = .ok (.iload_n 3, 1) := by decide +kernel
theorem dX9_doIt_294 : decode cX9_doIt 294 = .ok (.aload_n 0, 1) := by decide +kernel
theorem dX9_doIt_295 : decode cX9_doIt 295 = .ok (.getfield 173, 3) := by decide +kernel
theorem dX9_doIt_298 : decode cX9_doIt 298 = .ok (.if_icmp .ge 27, 3) := by decide +kernel
theorem dX9_doIt_301 : decode cX9_doIt 301 = .ok (.aload_n 0, 1) := by decide +kernel
theorem dX9_doIt_302 : decode cX9_doIt 302 = .ok (.getfield 65, 3) := by decide +kernel
theorem dX9_doIt_305 : decode cX9_doIt 305 = .ok (.iload_n 3, 1) := by decide +kernel
theorem dX9_doIt_306 : decode cX9_doIt 306 = .ok (.aload_n 0, 1) := by decide +kernel
theorem dX9_doIt_307 : decode cX9_doIt 307 = .ok (.aload_n 0, 1) := by decide +kernel
theorem dX9_doIt_308 : decode cX9_doIt 308 = .ok (.getfield 35, 3) := by decide +kernel
theorem dX9_doIt_311 : decode cX9_doIt 311 = .ok (.iconst 3, 1) := by decide +kernel
theorem dX9_doIt_312 : decode cX9_doIt 312 = .ok (.iload_n 3, 1) := by decide +kernel
theorem dX9_doIt_313 : decode cX9_doIt 313 = .ok (.iadd, 1) := by decide +kernel
theorem dX9_doIt_314 : decode cX9_doIt 314 = .ok (.iaload, 1) := by decide +kernel
theorem dX9_doIt_315 : decode cX9_doIt 315 = .ok (.invokevirtual 205, 3) := by decide +kernel
theorem dX9_doIt_318 : decode cX9_doIt 318 = .ok (.iastore, 1) := by decide +kernel
theorem dX9_doIt_319 : decode cX9_doIt 319 = .ok (.iinc 3 1, 3) := by decide +kernel
theorem dX9_doIt_322 : decode cX9_doIt 322 = .ok (.goto (-29), 3) := by decide +kernel
theorem dX9_doIt_325 : decode cX9_doIt 325 = .ok (.aload_n 0, 1) := by decide +kernel
theorem dX9_doIt_326 : decode cX9_doIt 326 = .ok (.iload_n 2, 1) := by decide +kernel
theorem dX9_doIt_327 : decode cX9_doIt 327 = .ok (.ifCond .lt 16, 3) := by decide +kernel
theorem dX9_doIt_330 : decode cX9_doIt 330 = .ok (.iload_n 2, 1) := by decide +kernel
theorem dX9_doIt_331 : decode cX9_doIt 331 = .ok (.sipush 256, 3) := by decide +kernel
theorem dX9_doIt_334 : decode cX9_doIt 334 = .ok (.if_icmp .ge 9, 3) := by decide +kernel
theorem dX9_doIt_337 : decode cX9_doIt 337 = .ok (.iconst 4, 1) := by decide +kernel
theorem dX9_doIt_338 : decode cX9_doIt 338 = .ok (.iload_n 2, 1) := by decide +kernel
theorem dX9_doIt_339 : decode cX9_doIt 339 = .ok (.imul, 1) := by decide +kernel
theorem dX9_doIt_340 : decode cX9_doIt 340 = .ok (.goto 4, 3) := by decide +kernel
theorem dX9_doIt_343 : decode cX9_doIt 343 = .ok (.iconst (-1), 1) := by decide +kernel
theorem dX9_doIt_344 : decode cX9_doIt 344 = .ok (.aload_n 0, 1) := by decide +kernel
theorem dX9_doIt_345 : decode cX9_doIt 345 = .ok (.getfield 35, 3) := by decide +kernel
theorem dX9_doIt_348 : decode cX9_doIt 348 = .ok (.iconst 0, 1) := by decide +kernel
theorem dX9_doIt_349 : decode cX9_doIt 349 = .ok (.iaload, 1) := by decide +kernel
theorem dX9_doIt_350 : decode cX9_doIt 350 = .ok (.invokevirtual 215, 3) := by decide +kernel
theorem dX9_doIt_353 : decode cX9_doIt 353 = .ok (.return_, 1) := by decide +kernel
theorem dX9_doIt_354 : decode cX9_doIt 354 = .ok (.aload_n 0, 1) := by decide +kernel
theorem dX9_doIt_355 : decode cX9_doIt 355 = .ok (.iload_n 1, 1) := by decide +kernel
theorem dX9_doIt_356 : decode cX9_doIt 356 = .ok (.invokevirtual 218, 3) := by decide +kernel
theorem dX9_doIt_359 : decode cX9_doIt 359 = .ok (.return_, 1) := by decide +kernel
theorem dX9_doIt_360 : decode cX9_doIt 360 = .ok (.aload_n 0, 1) := by decide +kernel
theorem dX9_doIt_361 : decode cX9_doIt 361 = .ok (.getfield 53, 3) := by decide +kernel
theorem dX9_doIt_364 : decode cX9_doIt 364 = .ok (.aload_n 0, 1) := by decide +kernel
theorem dX9_doIt_365 : decode cX9_doIt 365 = .ok (.getfield 161, 3) := by decide +kernel
theorem dX9_doIt_368 : decode cX9_doIt 368 = .ok (.iconst 1, 1) := by decide +kernel
theorem dX9_doIt_369 : decode cX9_doIt 369 = .ok (.isub, 1) := by decide +kernel
theorem dX9_doIt_370 : decode cX9_doIt 370 = .ok (.aload_n 0, 1) := by decide +kernel
theorem dX9_doIt_371 : decode cX9_doIt 371 = .ok (.getfield 35, 3) := by decide +kernel
theorem dX9_doIt_374 : decode cX9_doIt 374 = .ok (.iconst 0, 1) := by decide +kernel
theorem dX9_doIt_375 : decode cX9_doIt 375 = .ok (.iaload, 1) := by decide +kernel
theorem dX9_doIt_376 : decode cX9_doIt 376 = .ok (.iastore, 1) := by decide +kernel
theorem dX9_doIt_377 : decode cX9_doIt 377 = .ok (.return_, 1) := by decide +kernel
theorem dX9_doIt_378 : decode cX9_doIt 378 = .ok (.aload_n 0, 1) := by decide +kernel
theorem dX9_doIt_379 : decode cX9_doIt 379 = .ok (.iconst 0, 1) := by decide +kernel
theorem dX9_doIt_380 : decode cX9_doIt 380 = .ok (.invokevirtual 208, 3) := by decide +kernel
theorem dX9_doIt_383 : decode cX9_doIt 383 = .ok (.return_, 1) := by decide +kernel
theorem dX9_doIt_384 : decode cX9_doIt 384 = .ok (.aload_n 0, 1) := by decide +kernel
theorem dX9_doIt_385 : decode cX9_doIt 385 = .ok (.iload_n 2, 1) := by decide +kernel
theorem dX9_doIt_386 : decode cX9_doIt 386 = .ok (.aload_n 0, 1) := by decide +kernel
theorem dX9_doIt_387 : decode cX9_doIt 387 = .ok (.aload_n 0, 1) := by decide +kernel
theorem dX9_doIt_388 : decode cX9_doIt 388 = .ok (.getfield 35, 3) := by decide +kernel
theorem dX9_doIt_391 : decode cX9_doIt 391 = .ok (.iconst 2, 1) := by decide +kernel
theorem dX9_doIt_392 : decode cX9_doIt 392 = .ok (.iaload, 1) := by decide +kernel
theorem dX9_doIt_393 : decode cX9_doIt 393 = .ok (.invokevirtual 205, 3) := by decide +kernel
theorem dX9_doIt_396 : decode cX9_doIt 396 = .ok (.invokevirtual 221, 3) := by decide +kernel
theorem dX9_doIt_399 : decode cX9_doIt 399 = .ok (.return_, 1) := by decide +kernel
theorem dX9_one_0 : decode cX9_one 0 = .ok (.aload_n 0, 1) := by decide +kernel
theorem dX9_one_1 : decode cX9_one 1 = .ok (.getfield 161, 3) := by decide +kernel
theorem dX9_one_4 : decode cX9_one 4 = .ok (.iconst 1, 1) := by decide +kernel
theorem dX9_one_5 : decode cX9_one 5 = .ok (.isub, 1) := by decide +kernel
theorem dX9_one_6 : decode cX9_one 6 = .ok (.istore_n 1, 1) := by decide +kernel
theorem dX9_one_7 : decode cX9_one 7 = .ok (.aload_n 0, 1) := by decide +kernel
theorem dX9_one_8 : decode cX9_one 8 = .ok (.aload_n 0, 1) := by decide +kernel
theorem dX9_one_9 : decode cX9_one 9 = .ok (.getfield 44, 3) := by decide +kernel
theorem dX9_one_12 : decode cX9_one 12 = .ok (.iload_n 1, 1) := by decide +kernel
theorem dX9_one_13 : decode cX9_one 13 = .ok (.iaload, 1) := by decide +kernel
theorem dX9_one_14 : decode cX9_one 14 = .ok (.putfield 155, 3) := by decide +kernel
theorem dX9_one_17 : decode cX9_one 17 = .ok (.aload_n 0, 1) := by decide +kernel
theorem dX9_one_18 : decode cX9_one 18 = .ok (.aload_n 0, 1) := by decide +kernel
theorem dX9_one_19 : decode cX9_one 19 = .ok (.getfield 47, 3) := by decide +kernel
theorem dX9_one_22 : decode cX9_one 22 = .ok (.iload_n 1, 1) := by decide +kernel
theorem dX9_one_23 : decode cX9_one 23 = .ok (.iaload, 1) := by decide +kernel
theorem dX9_one_24 : decode cX9_one 24 = .ok (.aload_n 0, 1) := by decide +kernel
theorem dX9_one_25 : decode cX9_one 25 = .ok (.getfield 44, 3) := by decide +kernel
theorem dX9_one_28 : decode cX9_one 28 = .ok (.iload_n 1, 1) := by decide +kernel
theorem dX9_one_29 : decode cX9_one 29 = .ok (.iaload, 1) := by decide +kernel
theorem dX9_one_30 : decode cX9_one 30 = .ok (.isub, 1) := by decide +kernel
theorem dX9_one_31 : decode cX9_one 31 = .ok (.putfield 158, 3) := by decide +kernel
theorem dX9_one_34 : decode cX9_one 34 = .ok (.aload_n 0, 1) := by decide +kernel
theorem dX9_one_35 : decode cX9_one 35 = .ok (.invokevirtual 176, 3) := by decide +kernel
theorem dX9_one_38 : decode cX9_one 38 = .ok (.ifCond .ne 4, 3) := by decide +kernel
theorem dX9_one_41 : decode cX9_one 41 = .ok (.return_, 1) := by decide +kernel
theorem dX9_one_42 : decode cX9_one 42 = .ok (.aload_n 0, 1) := by decide +kernel
theorem dX9_one_43 : decode cX9_one 43 = .ok (.dup, 1) := by decide +kernel
theorem dX9_one_44 : decode cX9_one 44 = .ok (.getfield 224, 3) := by decide +kernel
theorem dX9_one_47 : decode cX9_one 47 = .ok (.aload_n 0, 1) := by decide +kernel
theorem dX9_one_48 : decode cX9_one 48 = .ok (.invokevirtual 227, 3) := by decide +kernel
theorem dX9_one_51 : decode cX9_one 51 = .ok (.ifCond .eq 7, 3) := by decide +kernel
theorem dX9_one_54 : decode cX9_one 54 = .ok (.iconst 1, 1) := by decide +kernel
theorem dX9_one_55 : decode cX9_one 55 = .ok (.goto 4, 3) := by decide +kernel
theorem dX9_one_58 : decode cX9_one 58 = .ok (.iconst 0, 1) := by decide +kernel
theorem dX9_one_59 : decode cX9_one 59 = .ok (.iadd, 1) := by decide +kernel
theorem dX9_one_60 : decode cX9_one 60 = .ok (.putfield 224, 3) := by decide +kernel
theorem dX9_one_63 : decode cX9_one 63 = .ok (.aload_n 0, 1) := by decide +kernel
theorem dX9_one_64 : decode cX9_one 64 = .ok (.aload_n 0, 1) := by decide +kernel
theorem dX9_one_65 : decode cX9_one 65 = .ok (.getfield 47, 3) := by decide +kernel
theorem dX9_one_68 : decode cX9_one 68 = .ok (.iload_n 1, 1) := by decide +kernel
theorem dX9_one_69 : decode cX9_one 69 = .ok (.iaload, 1) := by decide +kernel
theorem dX9_one_70 : decode cX9_one 70 = .ok (.aload_n 0, 1) := by decide +kernel
theorem dX9_one_71 : decode cX9_one 71 = .ok (.getfield 50, 3) := by decide +kernel
theorem dX9_one_74 : decode cX9_one 74 = .ok (.iload_n 1, 1) := by decide +kernel
theorem dX9_one_75 : decode cX9_one 75 = .ok (.iaload, 1) := by decide +kernel
theorem dX9_one_76 : decode cX9_one 76 = .ok (.invokevirtual 136, 3) := by decide +kernel
theorem dX9_one_79 : decode cX9_one 79 = .ok (.aload_n 0, 1) := by decide +kernel
theorem dX9_one_80 : decode cX9_one 80 = .ok (.getfield 107, 3) := by decide +kernel
theorem dX9_one_83 : decode cX9_one 83 = .ok (.ifCond .eq 12, 3) := by decide +kernel
theorem dX9_one_86 : decode cX9_one 86 = .ok (.aload_n 0, 1) := by decide +kernel
theorem dX9_one_87 : decode cX9_one 87 = .ok (.aload_n 0, 1) := by decide +kernel
theorem dX9_one_88 : decode cX9_one 88 = .ok (.getfield 107, 3) := by decide +kernel
theorem dX9_one_91 : decode cX9_one 91 = .ok (.invokevirtual 167, 3) := by decide +kernel
theorem dX9_one_94 : decode cX9_one 94 = .ok (.return_, 1) := by decide +kernel
theorem dX9_one_95 : decode cX9_one 95 = .ok (.aload_n 0, 1) := by decide +kernel
theorem dX9_one_96 : decode cX9_one 96 = .ok (.getfield 47, 3) := by decide +kernel
theorem dX9_one_99 : decode cX9_one 99 = .ok (.iload_n 1, 1) := by decide +kernel
theorem dX9_one_100 : decode cX9_one 100 = .ok (.aload_n 0, 1) := by decide +kernel
theorem dX9_one_101 : decode cX9_one 101 = .ok (.getfield 104, 3) := by decide +kernel
theorem dX9_one_104 : decode cX9_one 104 = .ok (.iastore, 1) := by decide +kernel
theorem dX9_one_105 : decode cX9_one 105 = .ok (.aload_n 0, 1) := by decide +kernel
theorem dX9_one_106 : decode cX9_one 106 = .ok (.invokevirtual 230, 3) := by decide +kernel
theorem dX9_one_109 : decode cX9_one 109 = .ok (.return_, 1) := by decide +kernel
theorem dX9_goes_0 : decode cX9_goes 0 = .ok (.aload_n 0, 1) := by decide +kernel
theorem dX9_goes_1 : decode cX9_goes 1 = .ok (.iconst 0, 1) := by decide +kernel
theorem dX9_goes_2 : decode cX9_goes 2 = .ok (.putfield 77, 3) := by decide +kernel
theorem dX9_goes_5 : decode cX9_goes 5 = .ok (.iload_n 2, 1) := by decide +kernel
theorem dX9_goes_6 : decode cX9_goes 6 = .ok (.ifCond .lt 15, 3) := by decide +kernel
theorem dX9_goes_9 : decode cX9_goes 9 = .ok (.iload_n 2, 1) := by decide +kernel
theorem dX9_goes_10 : decode cX9_goes 10 = .ok (.iconst 4, 1) := by decide +kernel
theorem dX9_goes_11 : decode cX9_goes 11 = .ok (.if_icmp .gt 10, 3) := by decide +kernel
theorem dX9_goes_14 : decode cX9_goes 14 = .ok (.iload_n 1, 1) := by decide +kernel
theorem dX9_goes_15 : decode cX9_goes 15 = .ok (.invokestatic 140, 3) := by decide +kernel
theorem dX9_goes_18 : decode cX9_goes 18 = .ok (.ifCond .ne 6, 3) := by decide +kernel
theorem dX9_goes_21 : decode cX9_goes 21 = .ok (.bipush (-2), 2) := by decide +kernel
theorem dX9_goes_23 : decode cX9_goes 23 = .ok (.ireturn, 1) := by decide +kernel
theorem dX9_goes_24 : decode cX9_goes 24 = .ok (.aload_n 0, 1) := by decide +kernel
theorem dX9_goes_25 : decode cX9_goes 25 = .ok (.getfield 233, 3) := by decide +kernel
theorem dX9_goes_28 : decode cX9_goes 28 = .ok (.sipush 500, 3) := by decide +kernel
theorem dX9_goes_31 : decode cX9_goes 31 = .ok (.if_icmp .lt 6, 3) := by decide +kernel
theorem dX9_goes_34 : decode cX9_goes 34 = .ok (.bipush (-3), 2) := by decide +kernel
theorem dX9_goes_36 : decode cX9_goes 36 = .ok (.ireturn, 1) := by decide +kernel
theorem dX9_goes_37 : decode cX9_goes 37 = .ok (.aload_n 0, 1) := by decide +kernel
theorem dX9_goes_38 : decode cX9_goes 38 = .ok (.iload_n 3, 1) := by decide +kernel
theorem dX9_goes_39 : decode cX9_goes 39 = .ok (.putfield 189, 3) := by decide +kernel
theorem dX9_goes_42 : decode cX9_goes 42 = .ok (.aload_n 0, 1) := by decide +kernel
theorem dX9_goes_43 : decode cX9_goes 43 = .ok (.iconst 0, 1) := by decide +kernel
theorem dX9_goes_44 : decode cX9_goes 44 = .ok (.putfield 164, 3) := by decide +kernel
theorem dX9_goes_47 : decode cX9_goes 47 = .ok (.aload_n 0, 1) := by decide +kernel
theorem dX9_goes_48 : decode cX9_goes 48 = .ok (.iconst 0, 1) := by decide +kernel
theorem dX9_goes_49 : decode cX9_goes 49 = .ok (.putfield 161, 3) := by decide +kernel
theorem dX9_goes_52 : decode cX9_goes 52 = .ok (.aload_n 0, 1) := by decide +kernel
theorem dX9_goes_53 : decode cX9_goes 53 = .ok (.iconst 0, 1) := by decide +kernel
theorem dX9_goes_54 : decode cX9_goes 54 = .ok (.putfield 152, 3) := by decide +kernel
theorem dX9_goes_57 : decode cX9_goes 57 = .ok (.aload_n 0, 1) := by decide +kernel
theorem dX9_goes_58 : decode cX9_goes 58 = .ok (.iconst (-1), 1) := by decide +kernel
theorem dX9_goes_59 : decode cX9_goes 59 = .ok (.putfield 68, 3) := by decide +kernel
theorem dX9_goes_62 : decode cX9_goes 62 = .ok (.aload_n 0, 1) := by decide +kernel
theorem dX9_goes_63 : decode cX9_goes 63 = .ok (.iconst (-1), 1) := by decide +kernel
theorem dX9_goes_64 : decode cX9_goes 64 = .ok (.putfield 71, 3) := by decide +kernel
theorem dX9_goes_67 : decode cX9_goes 67 = .ok (.aload_n 0, 1) := by decide +kernel
theorem dX9_goes_68 : decode cX9_goes 68 = .ok (.iconst 0, 1) := by decide +kernel
theorem dX9_goes_69 : decode cX9_goes 69 = .ok (.putfield 199, 3) := by decide +kernel
theorem dX9_goes_72 : decode cX9_goes 72 = .ok (.aload_n 0, 1) := by decide +kernel
theorem dX9_goes_73 : decode cX9_goes 73 = .ok (.iconst 0, 1) := by decide +kernel
theorem dX9_goes_74 : decode cX9_goes 74 = .ok (.putfield 186, 3) := by decide +kernel
theorem dX9_goes_77 : decode cX9_goes 77 = .ok (.aload_n 0, 1) := by decide +kernel
theorem dX9_goes_78 : decode cX9_goes 78 = .ok (.iload_n 1, 1) := by decide +kernel
theorem dX9_goes_79 : decode cX9_goes 79 = .ok (.putfield 155, 3) := by decide +kernel
theorem dX9_goes_82 : decode cX9_goes 82 = .ok (.aload_n 0, 1) := by decide +kernel
theorem dX9_goes_83 : decode cX9_goes 83 = .ok (.iconst 0, 1) := by decide +kernel
theorem dX9_goes_84 : decode cX9_goes 84 = .ok (.putfield 158, 3) := by decide +kernel
theorem dX9_goes_87 : decode cX9_goes 87 = .ok (.aload_n 0, 1) := by decide +kernel
theorem dX9_goes_88 : decode cX9_goes 88 = .ok (.iload_n 2, 1) := by decide +kernel
theorem dX9_goes_89 : decode cX9_goes 89 = .ok (.putfield 173, 3) := by decide +kernel
theorem dX9_goes_92 : decode cX9_goes 92 = .ok (.iconst 0, 1) := by decide +kernel
theorem dX9_goes_93 : decode cX9_goes 93 = .ok (.istore 4, 2) := by decide +kernel
theorem dX9_goes_95 : decode cX9_goes 95 = .ok (.iload 4, 2) := by decide +kernel
theorem dX9_goes_97 : decode cX9_goes 97 = .ok (.iload_n 2, 1) := by decide +kernel
theorem dX9_goes_98 : decode cX9_goes 98 = .ok (.if_icmp .ge 23, 3) := by decide +kernel
theorem dX9_goes_101 : decode cX9_goes 101 = .ok (.aload_n 0, 1) := by decide +kernel
theorem dX9_goes_102 : decode cX9_goes 102 = .ok (.getfield 65, 3) := by decide +kernel
theorem dX9_goes_105 : decode cX9_goes 105 = .ok (.iload 4, 2) := by decide +kernel
theorem dX9_goes_107 : decode cX9_goes 107 = .ok (.aload_n 0, 1) := by decide +kernel
theorem dX9_goes_108 : decode cX9_goes 108 = .ok (.getfield 16, 3) := by decide +kernel
theorem dX9_goes_111 : decode cX9_goes 111 = .ok (.iload 4, 2) := by decide +kernel
theorem dX9_goes_113 : decode cX9_goes 113 = .ok (.iaload, 1) := by decide +kernel
theorem dX9_goes_114 : decode cX9_goes 114 = .ok (.iastore, 1) := by decide +kernel
theorem dX9_goes_115 : decode cX9_goes 115 = .ok (.iinc 4 1, 3) := by decide +kernel
theorem dX9_goes_118 : decode cX9_goes 118 = .ok (.goto (-23), 3) := by decide +kernel
theorem dX9_goes_121 : decode cX9_goes 121 = .ok (.aload_n 0, 1) := by decide +kernel
theorem dX9_goes_122 : decode cX9_goes 122 = .ok (.iload_n 1, 1) := by decide +kernel
theorem dX9_goes_123 : decode cX9_goes 123 = .ok (.iconst (-1), 1) := by decide +kernel
theorem dX9_goes_124 : decode cX9_goes 124 = .ok (.invokevirtual 215, 3) := by decide +kernel
theorem dX9_goes_127 : decode cX9_goes 127 = .ok (.aload_n 0, 1) := by decide +kernel
theorem dX9_goes_128 : decode cX9_goes 128 = .ok (.getfield 161, 3) := by decide +kernel
theorem dX9_goes_131 : decode cX9_goes 131 = .ok (.ifCond .le 17, 3) := by decide +kernel
theorem dX9_goes_134 : decode cX9_goes 134 = .ok (.aload_n 0, 1) := by decide +kernel
theorem dX9_goes_135 : decode cX9_goes 135 = .ok (.getfield 152, 3) := by decide +kernel
theorem dX9_goes_138 : decode cX9_goes 138 = .ok (.ifCond .ne 10, 3) := by decide +kernel
theorem dX9_goes_141 : decode cX9_goes 141 = .ok (.aload_n 0, 1) := by decide +kernel
theorem dX9_goes_142 : decode cX9_goes 142 = .ok (.invokevirtual 236, 3) := by decide +kernel
theorem dX9_goes_145 : decode cX9_goes 145 = .ok (.goto (-18), 3) := by decide +kernel
theorem dX9_goes_148 : decode cX9_goes 148 = .ok (.aload_n 0, 1) := by decide +kernel
theorem dX9_goes_149 : decode cX9_goes 149 = .ok (.getfield 152, 3) := by decide +kernel
theorem dX9_goes_152 : decode cX9_goes 152 = .ok (.ifCond .ne 5, 3) := by decide +kernel
theorem dX9_goes_155 : decode cX9_goes 155 = .ok (.iconst 0, 1) := by decide +kernel
theorem dX9_goes_156 : decode cX9_goes 156 = .ok (.ireturn, 1) := by decide +kernel
theorem dX9_goes_157 : decode cX9_goes 157 = .ok (.aload_n 0, 1) := by decide +kernel
theorem dX9_goes_158 : decode cX9_goes 158 = .ok (.iconst 0, 1) := by decide +kernel
theorem dX9_goes_159 : decode cX9_goes 159 = .ok (.putfield 186, 3) := by decide +kernel
theorem dX9_goes_162 : decode cX9_goes 162 = .ok (.aload_n 0, 1) := by decide +kernel
theorem dX9_goes_163 : decode cX9_goes 163 = .ok (.dup, 1) := by decide +kernel
theorem dX9_goes_164 : decode cX9_goes 164 = .ok (.getfield 233, 3) := by decide +kernel
theorem dX9_goes_167 : decode cX9_goes 167 = .ok (.iconst 1, 1) := by decide +kernel
theorem dX9_goes_168 : decode cX9_goes 168 = .ok (.iadd, 1) := by decide +kernel
theorem dX9_goes_169 : decode cX9_goes 169 = .ok (.putfield 233, 3) := by decide +kernel
theorem dX9_goes_172 : decode cX9_goes 172 = .ok (.bipush (-10), 2) := by decide +kernel
theorem dX9_goes_174 : decode cX9_goes 174 = .ok (.aload_n 0, 1) := by decide +kernel
theorem dX9_goes_175 : decode cX9_goes 175 = .ok (.getfield 152, 3) := by decide +kernel
theorem dX9_goes_178 : decode cX9_goes 178 = .ok (.isub, 1) := by decide +kernel
theorem dX9_goes_179 : decode cX9_goes 179 = .ok (.ireturn, 1) := by decide +kernel
theorem dX9_argument_0 : decode cX9_argument 0 = .ok (.aload_n 0, 1) := by decide +kernel
theorem dX9_argument_1 : decode cX9_argument 1 = .ok (.iconst 0, 1) := by decide +kernel
theorem dX9_argument_2 : decode cX9_argument 2 = .ok (.putfield 77, 3) := by decide +kernel
theorem dX9_argument_5 : decode cX9_argument 5 = .ok (.iload_n 1, 1) := by decide +kernel
theorem dX9_argument_6 : decode cX9_argument 6 = .ok (.ifCond .lt 8, 3) := by decide +kernel
theorem dX9_argument_9 : decode cX9_argument 9 = .ok (.iload_n 1, 1) := by decide +kernel
theorem dX9_argument_10 : decode cX9_argument 10 = .ok (.iconst 3, 1) := by decide +kernel
theorem dX9_argument_11 : decode cX9_argument 11 = .ok (.if_icmp .le 6, 3) := by decide +kernel
theorem dX9_argument_14 : decode cX9_argument 14 = .ok (.bipush (-2), 2) := by decide +kernel
theorem dX9_argument_16 : decode cX9_argument 16 = .ok (.ireturn, 1) := by decide +kernel
theorem dX9_argument_17 : decode cX9_argument 17 = .ok (.aload_n 0, 1) := by decide +kernel
theorem dX9_argument_18 : decode cX9_argument 18 = .ok (.getfield 16, 3) := by decide +kernel
theorem dX9_argument_21 : decode cX9_argument 21 = .ok (.iload_n 1, 1) := by decide +kernel
theorem dX9_argument_22 : decode cX9_argument 22 = .ok (.iload_n 2, 1) := by decide +kernel
theorem dX9_argument_23 : decode cX9_argument 23 = .ok (.iastore, 1) := by decide +kernel
theorem dX9_argument_24 : decode cX9_argument 24 = .ok (.iconst 1, 1) := by decide +kernel
theorem dX9_argument_25 : decode cX9_argument 25 = .ok (.ireturn, 1) := by decide +kernel
theorem dX9_call_0 : decode cX9_call 0 = .ok (.aload_n 0, 1) := by decide +kernel
theorem dX9_call_1 : decode cX9_call 1 = .ok (.iload_n 1, 1) := by decide +kernel
theorem dX9_call_2 : decode cX9_call 2 = .ok (.iload_n 2, 1) := by decide +kernel
theorem dX9_call_3 : decode cX9_call 3 = .ok (.iconst 1, 1) := by decide +kernel
theorem dX9_call_4 : decode cX9_call 4 = .ok (.invokevirtual 239, 3) := by decide +kernel
theorem dX9_call_7 : decode cX9_call 7 = .ok (.ireturn, 1) := by decide +kernel
theorem dX9_walk_0 : decode cX9_walk 0 = .ok (.aload_n 0, 1) := by decide +kernel
theorem dX9_walk_1 : decode cX9_walk 1 = .ok (.iload_n 1, 1) := by decide +kernel
theorem dX9_walk_2 : decode cX9_walk 2 = .ok (.iload_n 2, 1) := by decide +kernel
theorem dX9_walk_3 : decode cX9_walk 3 = .ok (.iconst 0, 1) := by decide +kernel
theorem dX9_walk_4 : decode cX9_walk 4 = .ok (.invokevirtual 239, 3) := by decide +kernel
theorem dX9_walk_7 : decode cX9_walk 7 = .ok (.ireturn, 1) := by decide +kernel
theorem dX9_result_0 : decode cX9_result 0 = .ok (.aload_n 0, 1) := by decide +kernel
theorem dX9_result_1 : decode cX9_result 1 = .ok (.iconst 0, 1) := by decide +kernel
theorem dX9_result_2 : decode cX9_result 2 = .ok (.putfield 77, 3) := by decide +kernel
theorem dX9_result_5 : decode cX9_result 5 = .ok (.aload_n 0, 1) := by decide +kernel
theorem dX9_result_6 : decode cX9_result 6 = .ok (.getfield 186, 3) := by decide +kernel
theorem dX9_result_9 : decode cX9_result 9 = .ok (.ireturn, 1) := by decide +kernel
theorem dX9_fault_0 : decode cX9_fault 0 = .ok (.aload_n 0, 1) := by decide +kernel
theorem dX9_fault_1 : decode cX9_fault 1 = .ok (.iconst 0, 1) := by decide +kernel
theorem dX9_fault_2 : decode cX9_fault 2 = .ok (.putfield 77, 3) := by decide +kernel
theorem dX9_fault_5 : decode cX9_fault 5 = .ok (.iload_n 1, 1) := by decide +kernel
theorem dX9_fault_6 : decode cX9_fault 6 = .ok (.ifCond .ne 10, 3) := by decide +kernel
theorem dX9_fault_9 : decode cX9_fault 9 = .ok (.aload_n 0, 1) := by decide +kernel
theorem dX9_fault_10 : decode cX9_fault 10 = .ok (.getfield 68, 3) := by decide +kernel
theorem dX9_fault_13 : decode cX9_fault 13 = .ok (.goto 29, 3) := by decide +kernel
theorem dX9_fault_16 : decode cX9_fault 16 = .ok (.iload_n 1, 1) := by decide +kernel
theorem dX9_fault_17 : decode cX9_fault 17 = .ok (.iconst 1, 1) := by decide +kernel
theorem dX9_fault_18 : decode cX9_fault 18 = .ok (.if_icmp .ne 10, 3) := by decide +kernel
theorem dX9_fault_21 : decode cX9_fault 21 = .ok (.aload_n 0, 1) := by decide +kernel
theorem dX9_fault_22 : decode cX9_fault 22 = .ok (.getfield 71, 3) := by decide +kernel
theorem dX9_fault_25 : decode cX9_fault 25 = .ok (.goto 17, 3) := by decide +kernel
theorem dX9_fault_28 : decode cX9_fault 28 = .ok (.iload_n 1, 1) := by decide +kernel
theorem dX9_fault_29 : decode cX9_fault 29 = .ok (.iconst 2, 1) := by decide +kernel
theorem dX9_fault_30 : decode cX9_fault 30 = .ok (.if_icmp .ne 10, 3) := by decide +kernel
theorem dX9_fault_33 : decode cX9_fault 33 = .ok (.aload_n 0, 1) := by decide +kernel
theorem dX9_fault_34 : decode cX9_fault 34 = .ok (.getfield 199, 3) := by decide +kernel
theorem dX9_fault_37 : decode cX9_fault 37 = .ok (.goto 5, 3) := by decide +kernel
theorem dX9_fault_40 : decode cX9_fault 40 = .ok (.bipush (-2), 2) := by decide +kernel
theorem dX9_fault_42 : decode cX9_fault 42 = .ok (.ireturn, 1) := by decide +kernel
theorem dX9_accelerate_0 : decode cX9_accelerate 0 = .ok (.aload_n 0, 1) := by decide +kernel
theorem dX9_accelerate_1 : decode cX9_accelerate 1 = .ok (.iconst 0, 1) := by decide +kernel
theorem dX9_accelerate_2 : decode cX9_accelerate 2 = .ok (.putfield 77, 3) := by decide +kernel
theorem dX9_accelerate_5 : decode cX9_accelerate 5 = .ok (.iload_n 1, 1) := by decide +kernel
theorem dX9_accelerate_6 : decode cX9_accelerate 6 = .ok (.invokestatic 140, 3) := by decide +kernel
theorem dX9_accelerate_9 : decode cX9_accelerate 9 = .ok (.ifCond .eq 12, 3) := by decide +kernel
theorem dX9_accelerate_12 : decode cX9_accelerate 12 = .ok (.iload_n 2, 1) := by decide +kernel
theorem dX9_accelerate_13 : decode cX9_accelerate 13 = .ok (.ifCond .lt 8, 3) := by decide +kernel
theorem dX9_accelerate_16 : decode cX9_accelerate 16 = .ok (.iload_n 2, 1) := by decide +kernel
theorem dX9_accelerate_17 : decode cX9_accelerate 17 = .ok (.iconst 4, 1) := by decide +kernel
theorem dX9_accelerate_18 : decode cX9_accelerate 18 = .ok (.if_icmp .le 6, 3) := by decide +kernel
theorem dX9_accelerate_21 : decode cX9_accelerate 21 = .ok (.bipush (-2), 2) := by decide +kernel
theorem dX9_accelerate_23 : decode cX9_accelerate 23 = .ok (.ireturn, 1) := by decide +kernel
theorem dX9_accelerate_24 : decode cX9_accelerate 24 = .ok (.aload_n 0, 1) := by decide +kernel
theorem dX9_accelerate_25 : decode cX9_accelerate 25 = .ok (.getfield 19, 3) := by decide +kernel
theorem dX9_accelerate_28 : decode cX9_accelerate 28 = .ok (.iload_n 1, 1) := by decide +kernel
theorem dX9_accelerate_29 : decode cX9_accelerate 29 = .ok (.iconst 4, 1) := by decide +kernel
theorem dX9_accelerate_30 : decode cX9_accelerate 30 = .ok (.idiv, 1) := by decide +kernel
theorem dX9_accelerate_31 : decode cX9_accelerate 31 = .ok (.iaload, 1) := by decide +kernel
theorem dX9_accelerate_32 : decode cX9_accelerate 32 = .ok (.istore_n 3, 1) := by decide +kernel
theorem dX9_accelerate_33 : decode cX9_accelerate 33 = .ok (.aload_n 0, 1) := by decide +kernel
theorem dX9_accelerate_34 : decode cX9_accelerate 34 = .ok (.getfield 19, 3) := by decide +kernel
theorem dX9_accelerate_37 : decode cX9_accelerate 37 = .ok (.iload_n 1, 1) := by decide +kernel
theorem dX9_accelerate_38 : decode cX9_accelerate 38 = .ok (.iconst 4, 1) := by decide +kernel
theorem dX9_accelerate_39 : decode cX9_accelerate 39 = .ok (.idiv, 1) := by decide +kernel
theorem dX9_accelerate_40 : decode cX9_accelerate 40 = .ok (.iload_n 2, 1) := by decide +kernel
theorem dX9_accelerate_41 : decode cX9_accelerate 41 = .ok (.iastore, 1) := by decide +kernel
theorem dX9_accelerate_42 : decode cX9_accelerate 42 = .ok (.iload_n 3, 1) := by decide +kernel
theorem dX9_accelerate_43 : decode cX9_accelerate 43 = .ok (.ireturn, 1) := by decide +kernel
theorem dX9_kept_0 : decode cX9_kept 0 = .ok (.aload_n 0, 1) := by decide +kernel
theorem dX9_kept_1 : decode cX9_kept 1 = .ok (.iconst 0, 1) := by decide +kernel
theorem dX9_kept_2 : decode cX9_kept 2 = .ok (.putfield 77, 3) := by decide +kernel
theorem dX9_kept_5 : decode cX9_kept 5 = .ok (.iload_n 1, 1) := by decide +kernel
theorem dX9_kept_6 : decode cX9_kept 6 = .ok (.ifCond .lt 20, 3) := by decide +kernel
theorem dX9_kept_9 : decode cX9_kept 9 = .ok (.iload_n 1, 1) := by decide +kernel
theorem dX9_kept_10 : decode cX9_kept 10 = .ok (.aload_n 0, 1) := by decide +kernel
theorem dX9_kept_11 : decode cX9_kept 11 = .ok (.getfield 80, 3) := by decide +kernel
theorem dX9_kept_14 : decode cX9_kept 14 = .ok (.if_icmp .ge 12, 3) := by decide +kernel
theorem dX9_kept_17 : decode cX9_kept 17 = .ok (.aload_n 0, 1) := by decide +kernel
theorem dX9_kept_18 : decode cX9_kept 18 = .ok (.getfield 22, 3) := by decide +kernel
theorem dX9_kept_21 : decode cX9_kept 21 = .ok (.iload_n 1, 1) := by decide +kernel
theorem dX9_kept_22 : decode cX9_kept 22 = .ok (.iaload, 1) := by decide +kernel
theorem dX9_kept_23 : decode cX9_kept 23 = .ok (.goto 4, 3) := by decide +kernel
theorem dX9_kept_26 : decode cX9_kept 26 = .ok (.iconst (-1), 1) := by decide +kernel
theorem dX9_kept_27 : decode cX9_kept 27 = .ok (.ireturn, 1) := by decide +kernel
theorem dX9_drop_0 : decode cX9_drop 0 = .ok (.aload_n 0, 1) := by decide +kernel
theorem dX9_drop_1 : decode cX9_drop 1 = .ok (.iconst 0, 1) := by decide +kernel
theorem dX9_drop_2 : decode cX9_drop 2 = .ok (.putfield 77, 3) := by decide +kernel
theorem dX9_drop_5 : decode cX9_drop 5 = .ok (.iload_n 1, 1) := by decide +kernel
theorem dX9_drop_6 : decode cX9_drop 6 = .ok (.ifCond .lt 9, 3) := by decide +kernel
theorem dX9_drop_9 : decode cX9_drop 9 = .ok (.iload_n 1, 1) := by decide +kernel
theorem dX9_drop_10 : decode cX9_drop 10 = .ok (.bipush 15, 2) := by decide +kernel
theorem dX9_drop_12 : decode cX9_drop 12 = .ok (.if_icmp .le 8, 3) := by decide +kernel
theorem dX9_drop_15 : decode cX9_drop 15 = .ok (.bipush (-2), 2) := by decide +kernel
theorem dX9_drop_17 : decode cX9_drop 17 = .ok (.goto 8, 3) := by decide +kernel
theorem dX9_drop_20 : decode cX9_drop 20 = .ok (.aload_n 0, 1) := by decide +kernel
theorem dX9_drop_21 : decode cX9_drop 21 = .ok (.iload_n 1, 1) := by decide +kernel
theorem dX9_drop_22 : decode cX9_drop 22 = .ok (.invokevirtual 90, 3) := by decide +kernel
theorem dX9_drop_25 : decode cX9_drop 25 = .ok (.ireturn, 1) := by decide +kernel
theorem dX9_count_0 : decode cX9_count 0 = .ok (.aload_n 0, 1) := by decide +kernel
theorem dX9_count_1 : decode cX9_count 1 = .ok (.iconst 0, 1) := by decide +kernel
theorem dX9_count_2 : decode cX9_count 2 = .ok (.putfield 77, 3) := by decide +kernel
theorem dX9_count_5 : decode cX9_count 5 = .ok (.iload_n 1, 1) := by decide +kernel
theorem dX9_count_6 : decode cX9_count 6 = .ok (.tableswitch 86 0 7 #[46, 51, 56, 61, 66, 71, 76, 81], 46) := by decide +kernel
theorem dX9_count_52 : decode cX9_count 52 = .ok (.aload_n 0, 1) := by decide +kernel
theorem dX9_count_53 : decode cX9_count 53 = .ok (.getfield 149, 3) := by decide +kernel
theorem dX9_count_56 : decode cX9_count 56 = .ok (.ireturn, 1) := by decide +kernel
theorem dX9_count_57 : decode cX9_count 57 = .ok (.aload_n 0, 1) := by decide +kernel
theorem dX9_count_58 : decode cX9_count 58 = .ok (.getfield 83, 3) := by decide +kernel
theorem dX9_count_61 : decode cX9_count 61 = .ok (.ireturn, 1) := by decide +kernel
theorem dX9_count_62 : decode cX9_count 62 = .ok (.aload_n 0, 1) := by decide +kernel
theorem dX9_count_63 : decode cX9_count 63 = .ok (.getfield 170, 3) := by decide +kernel
theorem dX9_count_66 : decode cX9_count 66 = .ok (.ireturn, 1) := by decide +kernel
theorem dX9_count_67 : decode cX9_count 67 = .ok (.aload_n 0, 1) := by decide +kernel
theorem dX9_count_68 : decode cX9_count 68 = .ok (.getfield 224, 3) := by decide +kernel
theorem dX9_count_71 : decode cX9_count 71 = .ok (.ireturn, 1) := by decide +kernel
theorem dX9_count_72 : decode cX9_count 72 = .ok (.aload_n 0, 1) := by decide +kernel
theorem dX9_count_73 : decode cX9_count 73 = .ok (.getfield 193, 3) := by decide +kernel
theorem dX9_count_76 : decode cX9_count 76 = .ok (.ireturn, 1) := by decide +kernel
theorem dX9_count_77 : decode cX9_count 77 = .ok (.aload_n 0, 1) := by decide +kernel
theorem dX9_count_78 : decode cX9_count 78 = .ok (.getfield 196, 3) := by decide +kernel
theorem dX9_count_81 : decode cX9_count 81 = .ok (.ireturn, 1) := by decide +kernel
theorem dX9_count_82 : decode cX9_count 82 = .ok (.aload_n 0, 1) := by decide +kernel
theorem dX9_count_83 : decode cX9_count 83 = .ok (.getfield 233, 3) := by decide +kernel
theorem dX9_count_86 : decode cX9_count 86 = .ok (.ireturn, 1) := by decide +kernel
theorem dX9_count_87 : decode cX9_count 87 = .ok (.aload_n 0, 1) := by decide +kernel
theorem dX9_count_88 : decode cX9_count 88 = .ok (.getfield 202, 3) := by decide +kernel
theorem dX9_count_91 : decode cX9_count 91 = .ok (.ireturn, 1) := by decide +kernel
theorem dX9_count_92 : decode cX9_count 92 = .ok (.bipush (-2), 2) := by decide +kernel
theorem dX9_count_94 : decode cX9_count 94 = .ok (.ireturn, 1) := by decide +kernel
theorem dL_cell_0 : decode cL_cell 0 = .ok (.iload_n 1, 1) := by decide +kernel
theorem dL_cell_1 : decode cL_cell 1 = .ok (.aload_n 0, 1) := by decide +kernel
theorem dL_cell_2 : decode cL_cell 2 = .ok (.arraylength, 1) := by decide +kernel
theorem dL_cell_3 : decode cL_cell 3 = .ok (.if_icmp .ge 9, 3) := by decide +kernel
theorem dL_cell_6 : decode cL_cell 6 = .ok (.aload_n 0, 1) := by decide +kernel
theorem dL_cell_7 : decode cL_cell 7 = .ok (.iload_n 1, 1) := by decide +kernel
theorem dL_cell_8 : decode cL_cell 8 = .ok (.iaload, 1) := by decide +kernel
theorem dL_cell_9 : decode cL_cell 9 = .ok (.goto 4, 3) := by decide +kernel
theorem dL_cell_12 : decode cL_cell 12 = .ok (.iconst 0, 1) := by decide +kernel
theorem dL_cell_13 : decode cL_cell 13 = .ok (.ireturn, 1) := by decide +kernel
theorem dL_poke_0 : decode cL_poke 0 = .ok (.aload_n 3, 1) := by decide +kernel
theorem dL_poke_1 : decode cL_poke 1 = .ok (.iconst 0, 1) := by decide +kernel
theorem dL_poke_2 : decode cL_poke 2 = .ok (.aload_n 0, 1) := by decide +kernel
theorem dL_poke_3 : decode cL_poke 3 = .ok (.iload_n 1, 1) := by decide +kernel
theorem dL_poke_4 : decode cL_poke 4 = .ok (.iload_n 2, 1) := by decide +kernel
theorem dL_poke_5 : decode cL_poke 5 = .ok (.invokevirtual 7, 3) := by decide +kernel
theorem dL_poke_8 : decode cL_poke 8 = .ok (.i2l, 1) := by decide +kernel
theorem dL_poke_9 : decode cL_poke 9 = .ok (.lastore, 1) := by decide +kernel
theorem dL_poke_10 : decode cL_poke 10 = .ok (.goto 7, 3) := by decide +kernel
theorem dL_poke_13 : decode cL_poke 13 = .ok (.astore 4, 2) := by decide +kernel
theorem dL_poke_15 : decode cL_poke 15 = .ok (.iconst 1, 1) := by decide +kernel
theorem dL_poke_16 : decode cL_poke 16 = .ok (.ireturn, 1) := by decide +kernel
theorem dL_poke_17 : decode cL_poke 17 = .ok (.iconst 0, 1) := by decide +kernel
theorem dL_poke_18 : decode cL_poke 18 = .ok (.ireturn, 1) := by decide +kernel
theorem dL_peek_0 : decode cL_peek 0 = .ok (.aload_n 2, 1) := by decide +kernel
theorem dL_peek_1 : decode cL_peek 1 = .ok (.iconst 0, 1) := by decide +kernel
theorem dL_peek_2 : decode cL_peek 2 = .ok (.aload_n 0, 1) := by decide +kernel
theorem dL_peek_3 : decode cL_peek 3 = .ok (.iload_n 1, 1) := by decide +kernel
theorem dL_peek_4 : decode cL_peek 4 = .ok (.invokevirtual 15, 3) := by decide +kernel
theorem dL_peek_7 : decode cL_peek 7 = .ok (.i2l, 1) := by decide +kernel
theorem dL_peek_8 : decode cL_peek 8 = .ok (.lastore, 1) := by decide +kernel
theorem dL_peek_9 : decode cL_peek 9 = .ok (.goto 6, 3) := by decide +kernel
theorem dL_peek_12 : decode cL_peek 12 = .ok (.astore_n 3, 1) := by decide +kernel
theorem dL_peek_13 : decode cL_peek 13 = .ok (.iconst 1, 1) := by decide +kernel
theorem dL_peek_14 : decode cL_peek 14 = .ok (.ireturn, 1) := by decide +kernel
theorem dL_peek_15 : decode cL_peek 15 = .ok (.iconst 0, 1) := by decide +kernel
theorem dL_peek_16 : decode cL_peek 16 = .ok (.ireturn, 1) := by decide +kernel
theorem dL_global_0 : decode cL_global 0 = .ok (.aload_n 3, 1) := by decide +kernel
theorem dL_global_1 : decode cL_global 1 = .ok (.iconst 0, 1) := by decide +kernel
theorem dL_global_2 : decode cL_global 2 = .ok (.aload_n 0, 1) := by decide +kernel
theorem dL_global_3 : decode cL_global 3 = .ok (.iload_n 1, 1) := by decide +kernel
theorem dL_global_4 : decode cL_global 4 = .ok (.iload_n 2, 1) := by decide +kernel
theorem dL_global_5 : decode cL_global 5 = .ok (.invokevirtual 19, 3) := by decide +kernel
theorem dL_global_8 : decode cL_global 8 = .ok (.i2l, 1) := by decide +kernel
theorem dL_global_9 : decode cL_global 9 = .ok (.lastore, 1) := by decide +kernel
theorem dL_global_10 : decode cL_global 10 = .ok (.goto 7, 3) := by decide +kernel
theorem dL_global_13 : decode cL_global 13 = .ok (.astore 4, 2) := by decide +kernel
theorem dL_global_15 : decode cL_global 15 = .ok (.iconst 1, 1) := by decide +kernel
theorem dL_global_16 : decode cL_global 16 = .ok (.ireturn, 1) := by decide +kernel
theorem dL_global_17 : decode cL_global 17 = .ok (.iconst 0, 1) := by decide +kernel
theorem dL_global_18 : decode cL_global 18 = .ok (.ireturn, 1) := by decide +kernel
theorem dL_law_0 : decode cL_law 0 = .ok (.new 8, 3) := by decide +kernel
theorem dL_law_3 : decode cL_law 3 = .ok (.dup, 1) := by decide +kernel
theorem dL_law_4 : decode cL_law 4 = .ok (.aload_n 0, 1) := by decide +kernel
theorem dL_law_5 : decode cL_law 5 = .ok (.iconst 0, 1) := by decide +kernel
theorem dL_law_6 : decode cL_law 6 = .ok (.invokestatic 22, 3) := by decide +kernel
theorem dL_law_9 : decode cL_law 9 = .ok (.invokespecial 28, 3) := by decide +kernel
theorem dL_law_12 : decode cL_law 12 = .ok (.astore_n 1, 1) := by decide +kernel
theorem dL_law_13 : decode cL_law 13 = .ok (.new 31, 3) := by decide +kernel
theorem dL_law_16 : decode cL_law 16 = .ok (.dup, 1) := by decide +kernel
theorem dL_law_17 : decode cL_law 17 = .ok (.aload_n 0, 1) := by decide +kernel
theorem dL_law_18 : decode cL_law 18 = .ok (.iconst 0, 1) := by decide +kernel
theorem dL_law_19 : decode cL_law 19 = .ok (.invokestatic 22, 3) := by decide +kernel
theorem dL_law_22 : decode cL_law 22 = .ok (.invokespecial 33, 3) := by decide +kernel
theorem dL_law_25 : decode cL_law 25 = .ok (.astore_n 2, 1) := by decide +kernel
theorem dL_law_26 : decode cL_law 26 = .ok (.iconst 1, 1) := by decide +kernel
theorem dL_law_27 : decode cL_law 27 = .ok (.newarray .long, 2) := by decide +kernel
theorem dL_law_29 : decode cL_law 29 = .ok (.astore_n 3, 1) := by decide +kernel
theorem dL_law_30 : decode cL_law 30 = .ok (.iconst 1, 1) := by decide +kernel
theorem dL_law_31 : decode cL_law 31 = .ok (.istore 4, 2) := by decide +kernel
theorem dL_law_33 : decode cL_law 33 = .ok (.iload 4, 2) := by decide +kernel
theorem dL_law_35 : decode cL_law 35 = .ok (.aload_n 0, 1) := by decide +kernel
theorem dL_law_36 : decode cL_law 36 = .ok (.arraylength, 1) := by decide +kernel
theorem dL_law_37 : decode cL_law 37 = .ok (.iconst 5, 1) := by decide +kernel
theorem dL_law_38 : decode cL_law 38 = .ok (.isub, 1) := by decide +kernel
theorem dL_law_39 : decode cL_law 39 = .ok (.if_icmp .gt 663, 3) := by decide +kernel
theorem dL_law_42 : decode cL_law 42 = .ok (.aload_n 0, 1) := by decide +kernel
theorem dL_law_43 : decode cL_law 43 = .ok (.iload 4, 2) := by decide +kernel
theorem dL_law_45 : decode cL_law 45 = .ok (.iaload, 1) := by decide +kernel
theorem dL_law_46 : decode cL_law 46 = .ok (.bipush 15, 2) := by decide +kernel
theorem dL_law_48 : decode cL_law 48 = .ok (.iand, 1) := by decide +kernel
theorem dL_law_49 : decode cL_law 49 = .ok (.tableswitch 647 0 14 #[75, 143, 224, 280, 348, 373, 386, 423, 460, 497, 510, 535, 572, 597, 622], 75) := by decide +kernel
theorem dL_law_124 : decode cL_law 124 = .ok (.aload_n 1, 1) := by decide +kernel
theorem dL_law_125 : decode cL_law 125 = .ok (.aload_n 0, 1) := by decide +kernel
theorem dL_law_126 : decode cL_law 126 = .ok (.iload 4, 2) := by decide +kernel
theorem dL_law_128 : decode cL_law 128 = .ok (.iconst 1, 1) := by decide +kernel
theorem dL_law_129 : decode cL_law 129 = .ok (.iadd, 1) := by decide +kernel
theorem dL_law_130 : decode cL_law 130 = .ok (.iaload, 1) := by decide +kernel
theorem dL_law_131 : decode cL_law 131 = .ok (.aload_n 0, 1) := by decide +kernel
theorem dL_law_132 : decode cL_law 132 = .ok (.iload 4, 2) := by decide +kernel
theorem dL_law_134 : decode cL_law 134 = .ok (.iconst 2, 1) := by decide +kernel
theorem dL_law_135 : decode cL_law 135 = .ok (.iadd, 1) := by decide +kernel
theorem dL_law_136 : decode cL_law 136 = .ok (.iaload, 1) := by decide +kernel
theorem dL_law_137 : decode cL_law 137 = .ok (.aload_n 3, 1) := by decide +kernel
theorem dL_law_138 : decode cL_law 138 = .ok (.invokestatic 34, 3) := by decide +kernel
theorem dL_law_141 : decode cL_law 141 = .ok (.istore 5, 2) := by decide +kernel
theorem dL_law_143 : decode cL_law 143 = .ok (.aload_n 2, 1) := by decide +kernel
theorem dL_law_144 : decode cL_law 144 = .ok (.aload_n 0, 1) := by decide +kernel
theorem dL_law_145 : decode cL_law 145 = .ok (.iload 4, 2) := by decide +kernel
theorem dL_law_147 : decode cL_law 147 = .ok (.iconst 1, 1) := by decide +kernel
theorem dL_law_148 : decode cL_law 148 = .ok (.iadd, 1) := by decide +kernel
theorem dL_law_149 : decode cL_law 149 = .ok (.iaload, 1) := by decide +kernel
theorem dL_law_150 : decode cL_law 150 = .ok (.aload_n 0, 1) := by decide +kernel
theorem dL_law_151 : decode cL_law 151 = .ok (.iload 4, 2) := by decide +kernel
theorem dL_law_153 : decode cL_law 153 = .ok (.iconst 2, 1) := by decide +kernel
theorem dL_law_154 : decode cL_law 154 = .ok (.iadd, 1) := by decide +kernel
theorem dL_law_155 : decode cL_law 155 = .ok (.iaload, 1) := by decide +kernel
theorem dL_law_156 : decode cL_law 156 = .ok (.invokevirtual 37, 3) := by decide +kernel
theorem dL_law_159 : decode cL_law 159 = .ok (.istore 6, 2) := by decide +kernel
theorem dL_law_161 : decode cL_law 161 = .ok (.aload_n 2, 1) := by decide +kernel
theorem dL_law_162 : decode cL_law 162 = .ok (.invokevirtual 38, 3) := by decide +kernel
theorem dL_law_165 : decode cL_law 165 = .ok (.iload 5, 2) := by decide +kernel
theorem dL_law_167 : decode cL_law 167 = .ok (.if_icmp .eq 5, 3) := by decide +kernel
theorem dL_law_170 : decode cL_law 170 = .ok (.iconst 0, 1) := by decide +kernel
theorem dL_law_171 : decode cL_law 171 = .ok (.ireturn, 1) := by decide +kernel
theorem dL_law_172 : decode cL_law 172 = .ok (.iload 5, 2) := by decide +kernel
theorem dL_law_174 : decode cL_law 174 = .ok (.ifCond .ne 15, 3) := by decide +kernel
theorem dL_law_177 : decode cL_law 177 = .ok (.aload_n 3, 1) := by decide +kernel
theorem dL_law_178 : decode cL_law 178 = .ok (.iconst 0, 1) := by decide +kernel
theorem dL_law_179 : decode cL_law 179 = .ok (.laload, 1) := by decide +kernel
theorem dL_law_180 : decode cL_law 180 = .ok (.iload 6, 2) := by decide +kernel
theorem dL_law_182 : decode cL_law 182 = .ok (.i2l, 1) := by decide +kernel
theorem dL_law_183 : decode cL_law 183 = .ok (.lcmp, 1) := by decide +kernel
theorem dL_law_184 : decode cL_law 184 = .ok (.ifCond .eq 5, 3) := by decide +kernel
theorem dL_law_187 : decode cL_law 187 = .ok (.iconst 0, 1) := by decide +kernel
theorem dL_law_188 : decode cL_law 188 = .ok (.ireturn, 1) := by decide +kernel
theorem dL_law_189 : decode cL_law 189 = .ok (.goto 507, 3) := by decide +kernel
theorem dL_law_192 : decode cL_law 192 = .ok (.aload_n 1, 1) := by decide +kernel
theorem dL_law_193 : decode cL_law 193 = .ok (.aload_n 0, 1) := by decide +kernel
theorem dL_law_194 : decode cL_law 194 = .ok (.iload 4, 2) := by decide +kernel
theorem dL_law_196 : decode cL_law 196 = .ok (.iconst 1, 1) := by decide +kernel
theorem dL_law_197 : decode cL_law 197 = .ok (.iadd, 1) := by decide +kernel
theorem dL_law_198 : decode cL_law 198 = .ok (.iaload, 1) := by decide +kernel
theorem dL_law_199 : decode cL_law 199 = .ok (.aload_n 0, 1) := by decide +kernel
theorem dL_law_200 : decode cL_law 200 = .ok (.iload 4, 2) := by decide +kernel
theorem dL_law_202 : decode cL_law 202 = .ok (.iconst 2, 1) := by decide +kernel
theorem dL_law_203 : decode cL_law 203 = .ok (.iadd, 1) := by decide +kernel
theorem dL_law_204 : decode cL_law 204 = .ok (.iaload, 1) := by decide +kernel
theorem dL_law_205 : decode cL_law 205 = .ok (.aload_n 0, 1) := by decide +kernel
theorem dL_law_206 : decode cL_law 206 = .ok (.iload 4, 2) := by decide +kernel
theorem dL_law_208 : decode cL_law 208 = .ok (.iconst 3, 1) := by decide +kernel
theorem dL_law_209 : decode cL_law 209 = .ok (.iadd, 1) := by decide +kernel
theorem dL_law_210 : decode cL_law 210 = .ok (.iaload, 1) := by decide +kernel
theorem dL_law_211 : decode cL_law 211 = .ok (.i2l, 1) := by decide +kernel
theorem dL_law_212 : decode cL_law 212 = .ok (.bipush 32, 2) := by decide +kernel
theorem dL_law_214 : decode cL_law 214 = .ok (.lshl, 1) := by decide +kernel
theorem dL_law_215 : decode cL_law 215 = .ok (.aload_n 0, 1) := by decide +kernel
theorem dL_law_216 : decode cL_law 216 = .ok (.iload 4, 2) := by decide +kernel
theorem dL_law_218 : decode cL_law 218 = .ok (.iconst 4, 1) := by decide +kernel
theorem dL_law_219 : decode cL_law 219 = .ok (.iadd, 1) := by decide +kernel
theorem dL_law_220 : decode cL_law 220 = .ok (.iaload, 1) := by decide +kernel
theorem dL_law_221 : decode cL_law 221 = .ok (.i2l, 1) := by decide +kernel
theorem dL_law_222 : decode cL_law 222 = .ok (.ldc2_w 42, 3) := by decide +kernel
theorem dL_law_225 : decode cL_law 225 = .ok (.land, 1) := by decide +kernel
theorem dL_law_226 : decode cL_law 226 = .ok (.lor, 1) := by decide +kernel
theorem dL_law_227 : decode cL_law 227 = .ok (.invokevirtual 44, 3) := by decide +kernel
theorem dL_law_230 : decode cL_law 230 = .ok (.aload_n 2, 1) := by decide +kernel
theorem dL_law_231 : decode cL_law 231 = .ok (.aload_n 0, 1) := by decide +kernel
theorem dL_law_232 : decode cL_law 232 = .ok (.iload 4, 2) := by decide +kernel
theorem dL_law_234 : decode cL_law 234 = .ok (.iconst 1, 1) := by decide +kernel
theorem dL_law_235 : decode cL_law 235 = .ok (.iadd, 1) := by decide +kernel
theorem dL_law_236 : decode cL_law 236 = .ok (.iaload, 1) := by decide +kernel
theorem dL_law_237 : decode cL_law 237 = .ok (.aload_n 0, 1) := by decide +kernel
theorem dL_law_238 : decode cL_law 238 = .ok (.iload 4, 2) := by decide +kernel
theorem dL_law_240 : decode cL_law 240 = .ok (.iconst 2, 1) := by decide +kernel
theorem dL_law_241 : decode cL_law 241 = .ok (.iadd, 1) := by decide +kernel
theorem dL_law_242 : decode cL_law 242 = .ok (.iaload, 1) := by decide +kernel
theorem dL_law_243 : decode cL_law 243 = .ok (.aload_n 0, 1) := by decide +kernel
theorem dL_law_244 : decode cL_law 244 = .ok (.iload 4, 2) := by decide +kernel
theorem dL_law_246 : decode cL_law 246 = .ok (.iconst 3, 1) := by decide +kernel
theorem dL_law_247 : decode cL_law 247 = .ok (.iadd, 1) := by decide +kernel
theorem dL_law_248 : decode cL_law 248 = .ok (.iaload, 1) := by decide +kernel
theorem dL_law_249 : decode cL_law 249 = .ok (.i2l, 1) := by decide +kernel
theorem dL_law_250 : decode cL_law 250 = .ok (.bipush 32, 2) := by decide +kernel
theorem dL_law_252 : decode cL_law 252 = .ok (.lshl, 1) := by decide +kernel
theorem dL_law_253 : decode cL_law 253 = .ok (.aload_n 0, 1) := by decide +kernel
theorem dL_law_254 : decode cL_law 254 = .ok (.iload 4, 2) := by decide +kernel
theorem dL_law_256 : decode cL_law 256 = .ok (.iconst 4, 1) := by decide +kernel
theorem dL_law_257 : decode cL_law 257 = .ok (.iadd, 1) := by decide +kernel
theorem dL_law_258 : decode cL_law 258 = .ok (.iaload, 1) := by decide +kernel
theorem dL_law_259 : decode cL_law 259 = .ok (.i2l, 1) := by decide +kernel
theorem dL_law_260 : decode cL_law 260 = .ok (.ldc2_w 42, 3) := by decide +kernel
theorem dL_law_263 : decode cL_law 263 = .ok (.land, 1) := by decide +kernel
theorem dL_law_264 : decode cL_law 264 = .ok (.lor, 1) := by decide +kernel
theorem dL_law_265 : decode cL_law 265 = .ok (.invokevirtual 48, 3) := by decide +kernel
theorem dL_law_268 : decode cL_law 268 = .ok (.if_icmp .eq 428, 3) := by decide +kernel
theorem dL_law_271 : decode cL_law 271 = .ok (.iconst 0, 1) := by decide +kernel
theorem dL_law_272 : decode cL_law 272 = .ok (.ireturn, 1) := by decide +kernel
theorem dL_law_273 : decode cL_law 273 = .ok (.aload_n 1, 1) := by decide +kernel
theorem dL_law_274 : decode cL_law 274 = .ok (.aload_n 0, 1) := by decide +kernel
theorem dL_law_275 : decode cL_law 275 = .ok (.iload 4, 2) := by decide +kernel
theorem dL_law_277 : decode cL_law 277 = .ok (.iconst 1, 1) := by decide +kernel
theorem dL_law_278 : decode cL_law 278 = .ok (.iadd, 1) := by decide +kernel
theorem dL_law_279 : decode cL_law 279 = .ok (.iaload, 1) := by decide +kernel
theorem dL_law_280 : decode cL_law 280 = .ok (.aload_n 3, 1) := by decide +kernel
theorem dL_law_281 : decode cL_law 281 = .ok (.invokestatic 49, 3) := by decide +kernel
theorem dL_law_284 : decode cL_law 284 = .ok (.istore 5, 2) := by decide +kernel
theorem dL_law_286 : decode cL_law 286 = .ok (.aload_n 2, 1) := by decide +kernel
theorem dL_law_287 : decode cL_law 287 = .ok (.aload_n 0, 1) := by decide +kernel
theorem dL_law_288 : decode cL_law 288 = .ok (.iload 4, 2) := by decide +kernel
theorem dL_law_290 : decode cL_law 290 = .ok (.iconst 1, 1) := by decide +kernel
theorem dL_law_291 : decode cL_law 291 = .ok (.iadd, 1) := by decide +kernel
theorem dL_law_292 : decode cL_law 292 = .ok (.iaload, 1) := by decide +kernel
theorem dL_law_293 : decode cL_law 293 = .ok (.invokevirtual 52, 3) := by decide +kernel
theorem dL_law_296 : decode cL_law 296 = .ok (.istore 6, 2) := by decide +kernel
theorem dL_law_298 : decode cL_law 298 = .ok (.aload_n 2, 1) := by decide +kernel
theorem dL_law_299 : decode cL_law 299 = .ok (.invokevirtual 38, 3) := by decide +kernel
theorem dL_law_302 : decode cL_law 302 = .ok (.iload 5, 2) := by decide +kernel
theorem dL_law_304 : decode cL_law 304 = .ok (.if_icmp .eq 5, 3) := by decide +kernel
theorem dL_law_307 : decode cL_law 307 = .ok (.iconst 0, 1) := by decide +kernel
theorem dL_law_308 : decode cL_law 308 = .ok (.ireturn, 1) := by decide +kernel
theorem dL_law_309 : decode cL_law 309 = .ok (.iload 5, 2) := by decide +kernel
theorem dL_law_311 : decode cL_law 311 = .ok (.ifCond .ne 15, 3) := by decide +kernel
theorem dL_law_314 : decode cL_law 314 = .ok (.aload_n 3, 1) := by decide +kernel
theorem dL_law_315 : decode cL_law 315 = .ok (.iconst 0, 1) := by decide +kernel
theorem dL_law_316 : decode cL_law 316 = .ok (.laload, 1) := by decide +kernel
theorem dL_law_317 : decode cL_law 317 = .ok (.iload 6, 2) := by decide +kernel
theorem dL_law_319 : decode cL_law 319 = .ok (.i2l, 1) := by decide +kernel
theorem dL_law_320 : decode cL_law 320 = .ok (.lcmp, 1) := by decide +kernel
theorem dL_law_321 : decode cL_law 321 = .ok (.ifCond .eq 5, 3) := by decide +kernel
theorem dL_law_324 : decode cL_law 324 = .ok (.iconst 0, 1) := by decide +kernel
theorem dL_law_325 : decode cL_law 325 = .ok (.ireturn, 1) := by decide +kernel
theorem dL_law_326 : decode cL_law 326 = .ok (.goto 370, 3) := by decide +kernel
theorem dL_law_329 : decode cL_law 329 = .ok (.aload_n 1, 1) := by decide +kernel
theorem dL_law_330 : decode cL_law 330 = .ok (.aload_n 0, 1) := by decide +kernel
theorem dL_law_331 : decode cL_law 331 = .ok (.iload 4, 2) := by decide +kernel
theorem dL_law_333 : decode cL_law 333 = .ok (.iconst 1, 1) := by decide +kernel
theorem dL_law_334 : decode cL_law 334 = .ok (.iadd, 1) := by decide +kernel
theorem dL_law_335 : decode cL_law 335 = .ok (.iaload, 1) := by decide +kernel
theorem dL_law_336 : decode cL_law 336 = .ok (.aload_n 0, 1) := by decide +kernel
theorem dL_law_337 : decode cL_law 337 = .ok (.iload 4, 2) := by decide +kernel
theorem dL_law_339 : decode cL_law 339 = .ok (.iconst 2, 1) := by decide +kernel
theorem dL_law_340 : decode cL_law 340 = .ok (.iadd, 1) := by decide +kernel
theorem dL_law_341 : decode cL_law 341 = .ok (.iaload, 1) := by decide +kernel
theorem dL_law_342 : decode cL_law 342 = .ok (.aload_n 3, 1) := by decide +kernel
theorem dL_law_343 : decode cL_law 343 = .ok (.invokestatic 53, 3) := by decide +kernel
theorem dL_law_346 : decode cL_law 346 = .ok (.istore 5, 2) := by decide +kernel
theorem dL_law_348 : decode cL_law 348 = .ok (.aload_n 2, 1) := by decide +kernel
theorem dL_law_349 : decode cL_law 349 = .ok (.aload_n 0, 1) := by decide +kernel
theorem dL_law_350 : decode cL_law 350 = .ok (.iload 4, 2) := by decide +kernel
theorem dL_law_352 : decode cL_law 352 = .ok (.iconst 1, 1) := by decide +kernel
theorem dL_law_353 : decode cL_law 353 = .ok (.iadd, 1) := by decide +kernel
theorem dL_law_354 : decode cL_law 354 = .ok (.iaload, 1) := by decide +kernel
theorem dL_law_355 : decode cL_law 355 = .ok (.aload_n 0, 1) := by decide +kernel
theorem dL_law_356 : decode cL_law 356 = .ok (.iload 4, 2) := by decide +kernel
theorem dL_law_358 : decode cL_law 358 = .ok (.iconst 2, 1) := by decide +kernel
theorem dL_law_359 : decode cL_law 359 = .ok (.iadd, 1) := by decide +kernel
theorem dL_law_360 : decode cL_law 360 = .ok (.iaload, 1) := by decide +kernel
theorem dL_law_361 : decode cL_law 361 = .ok (.invokevirtual 55, 3) := by decide +kernel
theorem dL_law_364 : decode cL_law 364 = .ok (.istore 6, 2) := by decide +kernel
theorem dL_law_366 : decode cL_law 366 = .ok (.aload_n 2, 1) := by decide +kernel
theorem dL_law_367 : decode cL_law 367 = .ok (.invokevirtual 38, 3) := by decide +kernel
theorem dL_law_370 : decode cL_law 370 = .ok (.iload 5, 2) := by decide +kernel
theorem dL_law_372 : decode cL_law 372 = .ok (.if_icmp .eq 5, 3) := by decide +kernel
theorem dL_law_375 : decode cL_law 375 = .ok (.iconst 0, 1) := by decide +kernel
theorem dL_law_376 : decode cL_law 376 = .ok (.ireturn, 1) := by decide +kernel
theorem dL_law_377 : decode cL_law 377 = .ok (.iload 5, 2) := by decide +kernel
theorem dL_law_379 : decode cL_law 379 = .ok (.ifCond .ne 15, 3) := by decide +kernel
theorem dL_law_382 : decode cL_law 382 = .ok (.aload_n 3, 1) := by decide +kernel
theorem dL_law_383 : decode cL_law 383 = .ok (.iconst 0, 1) := by decide +kernel
theorem dL_law_384 : decode cL_law 384 = .ok (.laload, 1) := by decide +kernel
theorem dL_law_385 : decode cL_law 385 = .ok (.iload 6, 2) := by decide +kernel
theorem dL_law_387 : decode cL_law 387 = .ok (.i2l, 1) := by decide +kernel
theorem dL_law_388 : decode cL_law 388 = .ok (.lcmp, 1) := by decide +kernel
theorem dL_law_389 : decode cL_law 389 = .ok (.ifCond .eq 5, 3) := by decide +kernel
theorem dL_law_392 : decode cL_law 392 = .ok (.iconst 0, 1) := by decide +kernel
theorem dL_law_393 : decode cL_law 393 = .ok (.ireturn, 1) := by decide +kernel
theorem dL_law_394 : decode cL_law 394 = .ok (.goto 302, 3) := by decide +kernel
theorem dL_law_397 : decode cL_law 397 = .ok (.aload_n 1, 1) := by decide +kernel
theorem dL_law_398 : decode cL_law 398 = .ok (.aload_n 0, 1) := by decide +kernel
theorem dL_law_399 : decode cL_law 399 = .ok (.iload 4, 2) := by decide +kernel
theorem dL_law_401 : decode cL_law 401 = .ok (.iconst 1, 1) := by decide +kernel
theorem dL_law_402 : decode cL_law 402 = .ok (.iadd, 1) := by decide +kernel
theorem dL_law_403 : decode cL_law 403 = .ok (.iaload, 1) := by decide +kernel
theorem dL_law_404 : decode cL_law 404 = .ok (.invokevirtual 56, 3) := by decide +kernel
theorem dL_law_407 : decode cL_law 407 = .ok (.aload_n 2, 1) := by decide +kernel
theorem dL_law_408 : decode cL_law 408 = .ok (.aload_n 0, 1) := by decide +kernel
theorem dL_law_409 : decode cL_law 409 = .ok (.iload 4, 2) := by decide +kernel
theorem dL_law_411 : decode cL_law 411 = .ok (.iconst 1, 1) := by decide +kernel
theorem dL_law_412 : decode cL_law 412 = .ok (.iadd, 1) := by decide +kernel
theorem dL_law_413 : decode cL_law 413 = .ok (.iaload, 1) := by decide +kernel
theorem dL_law_414 : decode cL_law 414 = .ok (.invokevirtual 59, 3) := by decide +kernel
theorem dL_law_417 : decode cL_law 417 = .ok (.if_icmp .eq 279, 3) := by decide +kernel
theorem dL_law_420 : decode cL_law 420 = .ok (.iconst 0, 1) := by decide +kernel
theorem dL_law_421 : decode cL_law 421 = .ok (.ireturn, 1) := by decide +kernel
theorem dL_law_422 : decode cL_law 422 = .ok (.aload_n 1, 1) := by decide +kernel
theorem dL_law_423 : decode cL_law 423 = .ok (.invokevirtual 60, 3) := by decide +kernel
theorem dL_law_426 : decode cL_law 426 = .ok (.aload_n 2, 1) := by decide +kernel
theorem dL_law_427 : decode cL_law 427 = .ok (.invokevirtual 63, 3) := by decide +kernel
theorem dL_law_430 : decode cL_law 430 = .ok (.if_icmp .eq 266, 3) := by decide +kernel
theorem dL_law_433 : decode cL_law 433 = .ok (.iconst 0, 1) := by decide +kernel
theorem dL_law_434 : decode cL_law 434 = .ok (.ireturn, 1) := by decide +kernel
theorem dL_law_435 : decode cL_law 435 = .ok (.aload_n 1, 1) := by decide +kernel
theorem dL_law_436 : decode cL_law 436 = .ok (.aload_n 0, 1) := by decide +kernel
theorem dL_law_437 : decode cL_law 437 = .ok (.iload 4, 2) := by decide +kernel
theorem dL_law_439 : decode cL_law 439 = .ok (.iconst 1, 1) := by decide +kernel
theorem dL_law_440 : decode cL_law 440 = .ok (.iadd, 1) := by decide +kernel
theorem dL_law_441 : decode cL_law 441 = .ok (.iaload, 1) := by decide +kernel
theorem dL_law_442 : decode cL_law 442 = .ok (.aload_n 0, 1) := by decide +kernel
theorem dL_law_443 : decode cL_law 443 = .ok (.iload 4, 2) := by decide +kernel
theorem dL_law_445 : decode cL_law 445 = .ok (.iconst 2, 1) := by decide +kernel
theorem dL_law_446 : decode cL_law 446 = .ok (.iadd, 1) := by decide +kernel
theorem dL_law_447 : decode cL_law 447 = .ok (.iaload, 1) := by decide +kernel
theorem dL_law_448 : decode cL_law 448 = .ok (.invokevirtual 64, 3) := by decide +kernel
theorem dL_law_451 : decode cL_law 451 = .ok (.aload_n 2, 1) := by decide +kernel
theorem dL_law_452 : decode cL_law 452 = .ok (.aload_n 0, 1) := by decide +kernel
theorem dL_law_453 : decode cL_law 453 = .ok (.iload 4, 2) := by decide +kernel
theorem dL_law_455 : decode cL_law 455 = .ok (.iconst 1, 1) := by decide +kernel
theorem dL_law_456 : decode cL_law 456 = .ok (.iadd, 1) := by decide +kernel
theorem dL_law_457 : decode cL_law 457 = .ok (.iaload, 1) := by decide +kernel
theorem dL_law_458 : decode cL_law 458 = .ok (.aload_n 0, 1) := by decide +kernel
theorem dL_law_459 : decode cL_law 459 = .ok (.iload 4, 2) := by decide +kernel
theorem dL_law_461 : decode cL_law 461 = .ok (.iconst 2, 1) := by decide +kernel
theorem dL_law_462 : decode cL_law 462 = .ok (.iadd, 1) := by decide +kernel
theorem dL_law_463 : decode cL_law 463 = .ok (.iaload, 1) := by decide +kernel
theorem dL_law_464 : decode cL_law 464 = .ok (.invokevirtual 67, 3) := by decide +kernel
theorem dL_law_467 : decode cL_law 467 = .ok (.if_icmp .eq 229, 3) := by decide +kernel
theorem dL_law_470 : decode cL_law 470 = .ok (.iconst 0, 1) := by decide +kernel
theorem dL_law_471 : decode cL_law 471 = .ok (.ireturn, 1) := by decide +kernel
theorem dL_law_472 : decode cL_law 472 = .ok (.aload_n 1, 1) := by decide +kernel
theorem dL_law_473 : decode cL_law 473 = .ok (.aload_n 0, 1) := by decide +kernel
theorem dL_law_474 : decode cL_law 474 = .ok (.iload 4, 2) := by decide +kernel
theorem dL_law_476 : decode cL_law 476 = .ok (.iconst 1, 1) := by decide +kernel
theorem dL_law_477 : decode cL_law 477 = .ok (.iadd, 1) := by decide +kernel
theorem dL_law_478 : decode cL_law 478 = .ok (.iaload, 1) := by decide +kernel
theorem dL_law_479 : decode cL_law 479 = .ok (.aload_n 0, 1) := by decide +kernel
theorem dL_law_480 : decode cL_law 480 = .ok (.iload 4, 2) := by decide +kernel
theorem dL_law_482 : decode cL_law 482 = .ok (.iconst 2, 1) := by decide +kernel
theorem dL_law_483 : decode cL_law 483 = .ok (.iadd, 1) := by decide +kernel
theorem dL_law_484 : decode cL_law 484 = .ok (.iaload, 1) := by decide +kernel
theorem dL_law_485 : decode cL_law 485 = .ok (.invokevirtual 68, 3) := by decide +kernel
theorem dL_law_488 : decode cL_law 488 = .ok (.aload_n 2, 1) := by decide +kernel
theorem dL_law_489 : decode cL_law 489 = .ok (.aload_n 0, 1) := by decide +kernel
theorem dL_law_490 : decode cL_law 490 = .ok (.iload 4, 2) := by decide +kernel
theorem dL_law_492 : decode cL_law 492 = .ok (.iconst 1, 1) := by decide +kernel
theorem dL_law_493 : decode cL_law 493 = .ok (.iadd, 1) := by decide +kernel
theorem dL_law_494 : decode cL_law 494 = .ok (.iaload, 1) := by decide +kernel
theorem dL_law_495 : decode cL_law 495 = .ok (.aload_n 0, 1) := by decide +kernel
theorem dL_law_496 : decode cL_law 496 = .ok (.iload 4, 2) := by decide +kernel
theorem dL_law_498 : decode cL_law 498 = .ok (.iconst 2, 1) := by decide +kernel
theorem dL_law_499 : decode cL_law 499 = .ok (.iadd, 1) := by decide +kernel
theorem dL_law_500 : decode cL_law 500 = .ok (.iaload, 1) := by decide +kernel
theorem dL_law_501 : decode cL_law 501 = .ok (.invokevirtual 71, 3) := by decide +kernel
theorem dL_law_504 : decode cL_law 504 = .ok (.if_icmp .eq 192, 3) := by decide +kernel
theorem dL_law_507 : decode cL_law 507 = .ok (.iconst 0, 1) := by decide +kernel
theorem dL_law_508 : decode cL_law 508 = .ok (.ireturn, 1) := by decide +kernel
theorem dL_law_509 : decode cL_law 509 = .ok (.aload_n 1, 1) := by decide +kernel
theorem dL_law_510 : decode cL_law 510 = .ok (.aload_n 0, 1) := by decide +kernel
theorem dL_law_511 : decode cL_law 511 = .ok (.iload 4, 2) := by decide +kernel
theorem dL_law_513 : decode cL_law 513 = .ok (.iconst 1, 1) := by decide +kernel
theorem dL_law_514 : decode cL_law 514 = .ok (.iadd, 1) := by decide +kernel
theorem dL_law_515 : decode cL_law 515 = .ok (.iaload, 1) := by decide +kernel
theorem dL_law_516 : decode cL_law 516 = .ok (.aload_n 0, 1) := by decide +kernel
theorem dL_law_517 : decode cL_law 517 = .ok (.iload 4, 2) := by decide +kernel
theorem dL_law_519 : decode cL_law 519 = .ok (.iconst 2, 1) := by decide +kernel
theorem dL_law_520 : decode cL_law 520 = .ok (.iadd, 1) := by decide +kernel
theorem dL_law_521 : decode cL_law 521 = .ok (.iaload, 1) := by decide +kernel
theorem dL_law_522 : decode cL_law 522 = .ok (.invokevirtual 72, 3) := by decide +kernel
theorem dL_law_525 : decode cL_law 525 = .ok (.aload_n 2, 1) := by decide +kernel
theorem dL_law_526 : decode cL_law 526 = .ok (.aload_n 0, 1) := by decide +kernel
theorem dL_law_527 : decode cL_law 527 = .ok (.iload 4, 2) := by decide +kernel
theorem dL_law_529 : decode cL_law 529 = .ok (.iconst 1, 1) := by decide +kernel
theorem dL_law_530 : decode cL_law 530 = .ok (.iadd, 1) := by decide +kernel
theorem dL_law_531 : decode cL_law 531 = .ok (.iaload, 1) := by decide +kernel
theorem dL_law_532 : decode cL_law 532 = .ok (.aload_n 0, 1) := by decide +kernel
theorem dL_law_533 : decode cL_law 533 = .ok (.iload 4, 2) := by decide +kernel
theorem dL_law_535 : decode cL_law 535 = .ok (.iconst 2, 1) := by decide +kernel
theorem dL_law_536 : decode cL_law 536 = .ok (.iadd, 1) := by decide +kernel
theorem dL_law_537 : decode cL_law 537 = .ok (.iaload, 1) := by decide +kernel
theorem dL_law_538 : decode cL_law 538 = .ok (.invokevirtual 75, 3) := by decide +kernel
theorem dL_law_541 : decode cL_law 541 = .ok (.if_icmp .eq 155, 3) := by decide +kernel
theorem dL_law_544 : decode cL_law 544 = .ok (.iconst 0, 1) := by decide +kernel
theorem dL_law_545 : decode cL_law 545 = .ok (.ireturn, 1) := by decide +kernel
theorem dL_law_546 : decode cL_law 546 = .ok (.aload_n 1, 1) := by decide +kernel
theorem dL_law_547 : decode cL_law 547 = .ok (.invokevirtual 76, 3) := by decide +kernel
theorem dL_law_550 : decode cL_law 550 = .ok (.aload_n 2, 1) := by decide +kernel
theorem dL_law_551 : decode cL_law 551 = .ok (.invokevirtual 79, 3) := by decide +kernel
theorem dL_law_554 : decode cL_law 554 = .ok (.if_icmp .eq 142, 3) := by decide +kernel
theorem dL_law_557 : decode cL_law 557 = .ok (.iconst 0, 1) := by decide +kernel
theorem dL_law_558 : decode cL_law 558 = .ok (.ireturn, 1) := by decide +kernel
theorem dL_law_559 : decode cL_law 559 = .ok (.aload_n 1, 1) := by decide +kernel
theorem dL_law_560 : decode cL_law 560 = .ok (.aload_n 0, 1) := by decide +kernel
theorem dL_law_561 : decode cL_law 561 = .ok (.iload 4, 2) := by decide +kernel
theorem dL_law_563 : decode cL_law 563 = .ok (.iconst 1, 1) := by decide +kernel
theorem dL_law_564 : decode cL_law 564 = .ok (.iadd, 1) := by decide +kernel
theorem dL_law_565 : decode cL_law 565 = .ok (.iaload, 1) := by decide +kernel
theorem dL_law_566 : decode cL_law 566 = .ok (.invokevirtual 80, 3) := by decide +kernel
theorem dL_law_569 : decode cL_law 569 = .ok (.aload_n 2, 1) := by decide +kernel
theorem dL_law_570 : decode cL_law 570 = .ok (.aload_n 0, 1) := by decide +kernel
theorem dL_law_571 : decode cL_law 571 = .ok (.iload 4, 2) := by decide +kernel
theorem dL_law_573 : decode cL_law 573 = .ok (.iconst 1, 1) := by decide +kernel
theorem dL_law_574 : decode cL_law 574 = .ok (.iadd, 1) := by decide +kernel
theorem dL_law_575 : decode cL_law 575 = .ok (.iaload, 1) := by decide +kernel
theorem dL_law_576 : decode cL_law 576 = .ok (.invokevirtual 83, 3) := by decide +kernel
theorem dL_law_579 : decode cL_law 579 = .ok (.if_icmp .eq 117, 3) := by decide +kernel
theorem dL_law_582 : decode cL_law 582 = .ok (.iconst 0, 1) := by decide +kernel
theorem dL_law_583 : decode cL_law 583 = .ok (.ireturn, 1) := by decide +kernel
theorem dL_law_584 : decode cL_law 584 = .ok (.aload_n 1, 1) := by decide +kernel
theorem dL_law_585 : decode cL_law 585 = .ok (.aload_n 0, 1) := by decide +kernel
theorem dL_law_586 : decode cL_law 586 = .ok (.iload 4, 2) := by decide +kernel
theorem dL_law_588 : decode cL_law 588 = .ok (.iconst 1, 1) := by decide +kernel
theorem dL_law_589 : decode cL_law 589 = .ok (.iadd, 1) := by decide +kernel
theorem dL_law_590 : decode cL_law 590 = .ok (.iaload, 1) := by decide +kernel
theorem dL_law_591 : decode cL_law 591 = .ok (.aload_n 0, 1) := by decide +kernel
theorem dL_law_592 : decode cL_law 592 = .ok (.iload 4, 2) := by decide +kernel
theorem dL_law_594 : decode cL_law 594 = .ok (.iconst 2, 1) := by decide +kernel
theorem dL_law_595 : decode cL_law 595 = .ok (.iadd, 1) := by decide +kernel
theorem dL_law_596 : decode cL_law 596 = .ok (.iaload, 1) := by decide +kernel
theorem dL_law_597 : decode cL_law 597 = .ok (.invokevirtual 84, 3) := by decide +kernel
theorem dL_law_600 : decode cL_law 600 = .ok (.aload_n 2, 1) := by decide +kernel
theorem dL_law_601 : decode cL_law 601 = .ok (.aload_n 0, 1) := by decide +kernel
theorem dL_law_602 : decode cL_law 602 = .ok (.iload 4, 2) := by decide +kernel
theorem dL_law_604 : decode cL_law 604 = .ok (.iconst 1, 1) := by decide +kernel
theorem dL_law_605 : decode cL_law 605 = .ok (.iadd, 1) := by decide +kernel
theorem dL_law_606 : decode cL_law 606 = .ok (.iaload, 1) := by decide +kernel
theorem dL_law_607 : decode cL_law 607 = .ok (.aload_n 0, 1) := by decide +kernel
theorem dL_law_608 : decode cL_law 608 = .ok (.iload 4, 2) := by decide +kernel
theorem dL_law_610 : decode cL_law 610 = .ok (.iconst 2, 1) := by decide +kernel
theorem dL_law_611 : decode cL_law 611 = .ok (.iadd, 1) := by decide +kernel
theorem dL_law_612 : decode cL_law 612 = .ok (.iaload, 1) := by decide +kernel
theorem dL_law_613 : decode cL_law 613 = .ok (.invokevirtual 87, 3) := by decide +kernel
theorem dL_law_616 : decode cL_law 616 = .ok (.if_icmp .eq 80, 3) := by decide +kernel
theorem dL_law_619 : decode cL_law 619 = .ok (.iconst 0, 1) := by decide +kernel
theorem dL_law_620 : decode cL_law 620 = .ok (.ireturn, 1) := by decide +kernel
theorem dL_law_621 : decode cL_law 621 = .ok (.aload_n 1, 1) := by decide +kernel
theorem dL_law_622 : decode cL_law 622 = .ok (.aload_n 0, 1) := by decide +kernel
theorem dL_law_623 : decode cL_law 623 = .ok (.iload 4, 2) := by decide +kernel
theorem dL_law_625 : decode cL_law 625 = .ok (.iconst 1, 1) := by decide +kernel
theorem dL_law_626 : decode cL_law 626 = .ok (.iadd, 1) := by decide +kernel
theorem dL_law_627 : decode cL_law 627 = .ok (.iaload, 1) := by decide +kernel
theorem dL_law_628 : decode cL_law 628 = .ok (.invokevirtual 88, 3) := by decide +kernel
theorem dL_law_631 : decode cL_law 631 = .ok (.aload_n 2, 1) := by decide +kernel
theorem dL_law_632 : decode cL_law 632 = .ok (.aload_n 0, 1) := by decide +kernel
theorem dL_law_633 : decode cL_law 633 = .ok (.iload 4, 2) := by decide +kernel
theorem dL_law_635 : decode cL_law 635 = .ok (.iconst 1, 1) := by decide +kernel
theorem dL_law_636 : decode cL_law 636 = .ok (.iadd, 1) := by decide +kernel
theorem dL_law_637 : decode cL_law 637 = .ok (.iaload, 1) := by decide +kernel
theorem dL_law_638 : decode cL_law 638 = .ok (.invokevirtual 91, 3) := by decide +kernel
theorem dL_law_641 : decode cL_law 641 = .ok (.if_icmp .eq 55, 3) := by decide +kernel
theorem dL_law_644 : decode cL_law 644 = .ok (.iconst 0, 1) := by decide +kernel
theorem dL_law_645 : decode cL_law 645 = .ok (.ireturn, 1) := by decide +kernel
theorem dL_law_646 : decode cL_law 646 = .ok (.aload_n 1, 1) := by decide +kernel
theorem dL_law_647 : decode cL_law 647 = .ok (.aload_n 0, 1) := by decide +kernel
theorem dL_law_648 : decode cL_law 648 = .ok (.iload 4, 2) := by decide +kernel
theorem dL_law_650 : decode cL_law 650 = .ok (.iconst 1, 1) := by decide +kernel
theorem dL_law_651 : decode cL_law 651 = .ok (.iadd, 1) := by decide +kernel
theorem dL_law_652 : decode cL_law 652 = .ok (.iaload, 1) := by decide +kernel
theorem dL_law_653 : decode cL_law 653 = .ok (.invokevirtual 92, 3) := by decide +kernel
theorem dL_law_656 : decode cL_law 656 = .ok (.aload_n 2, 1) := by decide +kernel
theorem dL_law_657 : decode cL_law 657 = .ok (.aload_n 0, 1) := by decide +kernel
theorem dL_law_658 : decode cL_law 658 = .ok (.iload 4, 2) := by decide +kernel
theorem dL_law_660 : decode cL_law 660 = .ok (.iconst 1, 1) := by decide +kernel
theorem dL_law_661 : decode cL_law 661 = .ok (.iadd, 1) := by decide +kernel
theorem dL_law_662 : decode cL_law 662 = .ok (.iaload, 1) := by decide +kernel
theorem dL_law_663 : decode cL_law 663 = .ok (.invokevirtual 95, 3) := by decide +kernel
theorem dL_law_666 : decode cL_law 666 = .ok (.if_icmp .eq 30, 3) := by decide +kernel
theorem dL_law_669 : decode cL_law 669 = .ok (.iconst 0, 1) := by decide +kernel
theorem dL_law_670 : decode cL_law 670 = .ok (.ireturn, 1) := by decide +kernel
theorem dL_law_671 : decode cL_law 671 = .ok (.aload_n 1, 1) := by decide +kernel
theorem dL_law_672 : decode cL_law 672 = .ok (.aload_n 0, 1) := by decide +kernel
theorem dL_law_673 : decode cL_law 673 = .ok (.iload 4, 2) := by decide +kernel
theorem dL_law_675 : decode cL_law 675 = .ok (.iconst 1, 1) := by decide +kernel
theorem dL_law_676 : decode cL_law 676 = .ok (.iadd, 1) := by decide +kernel
theorem dL_law_677 : decode cL_law 677 = .ok (.iaload, 1) := by decide +kernel
theorem dL_law_678 : decode cL_law 678 = .ok (.invokevirtual 96, 3) := by decide +kernel
theorem dL_law_681 : decode cL_law 681 = .ok (.aload_n 2, 1) := by decide +kernel
theorem dL_law_682 : decode cL_law 682 = .ok (.aload_n 0, 1) := by decide +kernel
theorem dL_law_683 : decode cL_law 683 = .ok (.iload 4, 2) := by decide +kernel
theorem dL_law_685 : decode cL_law 685 = .ok (.iconst 1, 1) := by decide +kernel
theorem dL_law_686 : decode cL_law 686 = .ok (.iadd, 1) := by decide +kernel
theorem dL_law_687 : decode cL_law 687 = .ok (.iaload, 1) := by decide +kernel
theorem dL_law_688 : decode cL_law 688 = .ok (.invokevirtual 99, 3) := by decide +kernel
theorem dL_law_691 : decode cL_law 691 = .ok (.if_icmp .eq 5, 3) := by decide +kernel
theorem dL_law_694 : decode cL_law 694 = .ok (.iconst 0, 1) := by decide +kernel
theorem dL_law_695 : decode cL_law 695 = .ok (.ireturn, 1) := by decide +kernel
theorem dL_law_696 : decode cL_law 696 = .ok (.iinc 4 5, 3) := by decide +kernel
theorem dL_law_699 : decode cL_law 699 = .ok (.goto (-666), 3) := by decide +kernel
theorem dL_law_702 : decode cL_law 702 = .ok (.iconst 1, 1) := by decide +kernel
theorem dL_law_703 : decode cL_law 703 = .ok (.ireturn, 1) := by decide +kernel
end
section
/-! the good words among the tables' and their places -/
def xALL : List Cond := lw_tbl.filter goodWord
theorem xALL_good : ∀ w ∈ xALL, (w.onTables && w.keeps) = true ∨ ∃ ty, w = .arrayClass ty := fun w h => good_of_word (List.mem_filter.mp h).2
theorem xALL_tbl : ∀ w ∈ xALL, w ∈ lw_tbl := fun w h => (List.mem_filter.mp h).1
theorem xALL_of {i : Nat} {w : Cond} (h : lw_tbl[i]? = some w) (hg : goodWord w = true) : w ∈ xALL := List.mem_filter.mpr ⟨List.mem_of_getElem? h, hg⟩
theorem xALL_in (ws : List Cond) (ps : List Nat) (hp : ws = ps.filterMap (fun i => lw_tbl[i]?)) (h : ws.all goodWord = true) : ∀ w ∈ ws, w ∈ xALL := by
  intro w hw
  have h1 := List.all_eq_true.mp h w hw
  rw [hp] at hw
  obtain ⟨i, -, hi⟩ := List.mem_filterMap.mp hw
  exact xALL_of hi h1
theorem xGood {c0 c1 : Cond} (h : c1 ∈ xALL) : GoodIn (c0 :: xALL) (c1 :: xALL) := fun w hw => (List.mem_cons.mp hw).elim (fun z => by rw [z]; exact ⟨List.mem_cons_of_mem _ h, xALL_good _ h⟩) (fun z => ⟨List.mem_cons_of_mem _ z, xALL_good _ z⟩)
theorem xGoodT {c1 : Cond} (h : c1 ∈ xALL) : GoodIn lw_tbl (c1 :: xALL) := fun w hw => (List.mem_cons.mp hw).elim (fun z => by rw [z]; exact ⟨xALL_tbl _ h, xALL_good _ h⟩) (fun z => ⟨xALL_tbl _ z, xALL_good _ z⟩)
theorem in_L : Cond.initialized RL ∈ xALL := xALL_of (i := 50) (by decide +kernel) (by decide +kernel)
theorem in_X8 : Cond.initialized RX8 ∈ xALL := xALL_of (i := 51) (by decide +kernel) (by decide +kernel)
theorem in_X7 : Cond.initialized RX7 ∈ xALL := xALL_of (i := 52) (by decide +kernel) (by decide +kernel)
theorem in_J9 : Cond.initialized RJ9 ∈ xALL := xALL_of (i := 53) (by decide +kernel) (by decide +kernel)
theorem in_X2 : Cond.initialized RX2 ∈ xALL := xALL_of (i := 54) (by decide +kernel) (by decide +kernel)
theorem in_X3 : Cond.initialized RX3 ∈ xALL := xALL_of (i := 55) (by decide +kernel) (by decide +kernel)
theorem in_X6 : Cond.initialized RX6 ∈ xALL := xALL_of (i := 56) (by decide +kernel) (by decide +kernel)
theorem in_X4 : Cond.initialized RX4 ∈ xALL := xALL_of (i := 57) (by decide +kernel) (by decide +kernel)
theorem in_X1 : Cond.initialized RX1 ∈ xALL := xALL_of (i := 58) (by decide +kernel) (by decide +kernel)
theorem in_X9 : Cond.initialized RX9 ∈ xALL := xALL_of (i := 59) (by decide +kernel) (by decide +kernel)
theorem in_Jx00060 : Cond.initialized RJx00060 ∈ xALL := xALL_of (i := 64) (by decide +kernel) (by decide +kernel)
theorem in_J0 : Cond.initialized RJ0 ∈ xALL := xALL_of (i := 65) (by decide +kernel) (by decide +kernel)
theorem in_X0 : Cond.initialized RX0 ∈ xALL := xALL_of (i := 66) (by decide +kernel) (by decide +kernel)
theorem cl_L_8 : Cond.classLink RL 8 RX8 ∈ xALL := xALL_of (i := 67) (by decide +kernel) (by decide +kernel)
theorem it_X8 : Cond.instantiable RX8 7 ∈ xALL := xALL_of (i := 68) (by decide +kernel) (by decide +kernel)
theorem ml_L_28 : Cond.methodLink RL 28 yX8_init ∈ xALL := xALL_of (i := 69) (by decide +kernel) (by decide +kernel)
theorem im_X8_init : Cond.instanceMethod yX8_init ∈ xALL := xALL_of (i := 70) (by decide +kernel) (by decide +kernel)
theorem cd_X8_init : Cond.code yX8_init cX8_init 2 none ∈ xALL := xALL_of (i := 71) (by decide +kernel) (by decide +kernel)
theorem cl_X8_19 : Cond.classLink RX8 19 RX7 ∈ xALL := xALL_of (i := 75) (by decide +kernel) (by decide +kernel)
theorem it_X7 : Cond.instantiable RX7 4 ∈ xALL := xALL_of (i := 76) (by decide +kernel) (by decide +kernel)
theorem ml_X8_21 : Cond.methodLink RX8 21 yJ9_min_7cf53 ∈ xALL := xALL_of (i := 77) (by decide +kernel) (by decide +kernel)
theorem ss_J9_min_7cf53 : Cond.static yJ9_min_7cf53 ∈ xALL := xALL_of (i := 78) (by decide +kernel) (by decide +kernel)
theorem cd_J9_min_7cf53 : Cond.code yJ9_min_7cf53 cJ9_min_7cf53 2 (some .int) ∈ xALL := xALL_of (i := 79) (by decide +kernel) (by decide +kernel)
theorem ml_X8_27 : Cond.methodLink RX8 27 yJ9_max_7cf53 ∈ xALL := xALL_of (i := 80) (by decide +kernel) (by decide +kernel)
theorem ss_J9_max_7cf53 : Cond.static yJ9_max_7cf53 ∈ xALL := xALL_of (i := 81) (by decide +kernel) (by decide +kernel)
theorem cd_J9_max_7cf53 : Cond.code yJ9_max_7cf53 cJ9_max_7cf53 2 (some .int) ∈ xALL := xALL_of (i := 82) (by decide +kernel) (by decide +kernel)
theorem ml_X8_30 : Cond.methodLink RX8 30 yX7_init ∈ xALL := xALL_of (i := 83) (by decide +kernel) (by decide +kernel)
theorem im_X7_init : Cond.instanceMethod yX7_init ∈ xALL := xALL_of (i := 84) (by decide +kernel) (by decide +kernel)
theorem cd_X7_init : Cond.code yX7_init cX7_init 4 none ∈ xALL := xALL_of (i := 85) (by decide +kernel) (by decide +kernel)
theorem cl_X7_19 : Cond.classLink RX7 19 RX2 ∈ xALL := xALL_of (i := 87) (by decide +kernel) (by decide +kernel)
theorem it_X2 : Cond.instantiable RX2 6 ∈ xALL := xALL_of (i := 89) (by decide +kernel) (by decide +kernel)
theorem im_X2_init : Cond.instanceMethod yX2_init ∈ xALL := xALL_of (i := 91) (by decide +kernel) (by decide +kernel)
theorem cd_X2_init : Cond.code yX2_init cX2_init 1 none ∈ xALL := xALL_of (i := 92) (by decide +kernel) (by decide +kernel)
theorem fl_X2_13 : Cond.fieldLink RX2 13 "MadeCalls$Made" "rows" "[I" ∈ xALL := xALL_of (i := 94) (by decide +kernel) (by decide +kernel)
theorem fl_X6_157 : Cond.fieldLink RX6 157 "MadeCalls$Made" "rows" "[I" ∈ xALL := xALL_of (i := 95) (by decide +kernel) (by decide +kernel)
theorem fl_X2_21 : Cond.fieldLink RX2 21 "MadeCalls$Made" "size" "I" ∈ xALL := xALL_of (i := 96) (by decide +kernel) (by decide +kernel)
theorem fl_X1_44 : Cond.fieldLink RX1 44 "MadeCalls$Made" "size" "I" ∈ xALL := xALL_of (i := 97) (by decide +kernel) (by decide +kernel)
theorem fl_X8_104 : Cond.fieldLink RX8 104 "MadeCalls$Made" "size" "I" ∈ xALL := xALL_of (i := 98) (by decide +kernel) (by decide +kernel)
theorem fl_X2_17 : Cond.fieldLink RX2 17 "MadeCalls$Made" "address" "I" ∈ xALL := xALL_of (i := 99) (by decide +kernel) (by decide +kernel)
theorem fl_X7_37 : Cond.fieldLink RX7 37 "MadeCalls$Made" "address" "I" ∈ xALL := xALL_of (i := 100) (by decide +kernel) (by decide +kernel)
theorem fl_X1_38 : Cond.fieldLink RX1 38 "MadeCalls$Made" "isKept" "Z" ∈ xALL := xALL_of (i := 101) (by decide +kernel) (by decide +kernel)
theorem fl_X7_33 : Cond.fieldLink RX7 33 "MadeCalls$Made" "isKept" "Z" ∈ xALL := xALL_of (i := 102) (by decide +kernel) (by decide +kernel)
theorem fl_X2_35 : Cond.fieldLink RX2 35 "MadeCalls$Made" "firstPage" "I" ∈ xALL := xALL_of (i := 103) (by decide +kernel) (by decide +kernel)
theorem fl_X2_38 : Cond.fieldLink RX2 38 "MadeCalls$Made" "lastPage" "I" ∈ xALL := xALL_of (i := 104) (by decide +kernel) (by decide +kernel)
theorem fl_X7_9 : Cond.fieldLink RX7 9 "MadeCalls$Shelf" "most" "I" ∈ xALL := xALL_of (i := 119) (by decide +kernel) (by decide +kernel)
theorem fl_X8_98 : Cond.fieldLink RX8 98 "MadeCalls$Shelf" "most" "I" ∈ xALL := xALL_of (i := 120) (by decide +kernel) (by decide +kernel)
theorem fl_X7_21 : Cond.fieldLink RX7 21 "MadeCalls$Shelf" "all" "[LMadeCalls$Made;" ∈ xALL := xALL_of (i := 121) (by decide +kernel) (by decide +kernel)
theorem fl_X7_15 : Cond.fieldLink RX7 15 "MadeCalls$Shelf" "counts" "[I" ∈ xALL := xALL_of (i := 122) (by decide +kernel) (by decide +kernel)
theorem fl_X7_26 : Cond.fieldLink RX7 26 "MadeCalls$Shelf" "size" "I" ∈ xALL := xALL_of (i := 123) (by decide +kernel) (by decide +kernel)
theorem cl_X8_37 : Cond.classLink RX8 37 RX3 ∈ xALL := xALL_of (i := 133) (by decide +kernel) (by decide +kernel)
theorem it_X3 : Cond.instantiable RX3 2 ∈ xALL := xALL_of (i := 134) (by decide +kernel) (by decide +kernel)
theorem ml_X8_39 : Cond.methodLink RX8 39 yX3_init ∈ xALL := xALL_of (i := 135) (by decide +kernel) (by decide +kernel)
theorem im_X3_init : Cond.instanceMethod yX3_init ∈ xALL := xALL_of (i := 136) (by decide +kernel) (by decide +kernel)
theorem cd_X3_init : Cond.code yX3_init cX3_init 2 none ∈ xALL := xALL_of (i := 137) (by decide +kernel) (by decide +kernel)
theorem fl_X3_9 : Cond.fieldLink RX3 9 "MadeCalls$Memory" "bytes" "[I" ∈ xALL := xALL_of (i := 139) (by decide +kernel) (by decide +kernel)
theorem fl_X8_70 : Cond.fieldLink RX8 70 "MadeCalls$Memory" "bytes" "[I" ∈ xALL := xALL_of (i := 140) (by decide +kernel) (by decide +kernel)
theorem fl_X2_24 : Cond.fieldLink RX2 24 "MadeCalls$Memory" "bytes" "[I" ∈ xALL := xALL_of (i := 141) (by decide +kernel) (by decide +kernel)
theorem fl_X6_106 : Cond.fieldLink RX6 106 "MadeCalls$Memory" "bytes" "[I" ∈ xALL := xALL_of (i := 142) (by decide +kernel) (by decide +kernel)
theorem fl_X3_15 : Cond.fieldLink RX3 15 "MadeCalls$Memory" "shelf" "LMadeCalls$Shelf;" ∈ xALL := xALL_of (i := 143) (by decide +kernel) (by decide +kernel)
theorem cl_X8_46 : Cond.classLink RX8 46 RX6 ∈ xALL := xALL_of (i := 149) (by decide +kernel) (by decide +kernel)
theorem it_X6 : Cond.instantiable RX6 16 ∈ xALL := xALL_of (i := 150) (by decide +kernel) (by decide +kernel)
theorem ml_X8_48 : Cond.methodLink RX8 48 yX6_init ∈ xALL := xALL_of (i := 151) (by decide +kernel) (by decide +kernel)
theorem im_X6_init : Cond.instanceMethod yX6_init ∈ xALL := xALL_of (i := 152) (by decide +kernel) (by decide +kernel)
theorem cd_X6_init : Cond.code yX6_init cX6_init 6 none ∈ xALL := xALL_of (i := 153) (by decide +kernel) (by decide +kernel)
theorem cl_X6_9 : Cond.classLink RX6 9 RX4 ∈ xALL := xALL_of (i := 155) (by decide +kernel) (by decide +kernel)
theorem it_X4 : Cond.instantiable RX4 5 ∈ xALL := xALL_of (i := 156) (by decide +kernel) (by decide +kernel)
theorem im_X4_init : Cond.instanceMethod yX4_init ∈ xALL := xALL_of (i := 158) (by decide +kernel) (by decide +kernel)
theorem cd_X4_init : Cond.code yX4_init cX4_init 1 none ∈ xALL := xALL_of (i := 159) (by decide +kernel) (by decide +kernel)
theorem fl_X4_18 : Cond.fieldLink RX4 18 "MadeCalls$Outcome" "value" "I" ∈ xALL := xALL_of (i := 161) (by decide +kernel) (by decide +kernel)
theorem fl_X8_118 : Cond.fieldLink RX8 118 "MadeCalls$Outcome" "value" "I" ∈ xALL := xALL_of (i := 162) (by decide +kernel) (by decide +kernel)
theorem fl_X6_220 : Cond.fieldLink RX6 220 "MadeCalls$Outcome" "value" "I" ∈ xALL := xALL_of (i := 163) (by decide +kernel) (by decide +kernel)
theorem fl_X4_21 : Cond.fieldLink RX4 21 "MadeCalls$Outcome" "fault" "I" ∈ xALL := xALL_of (i := 164) (by decide +kernel) (by decide +kernel)
theorem fl_X6_86 : Cond.fieldLink RX6 86 "MadeCalls$Outcome" "fault" "I" ∈ xALL := xALL_of (i := 165) (by decide +kernel) (by decide +kernel)
theorem fl_X4_9 : Cond.fieldLink RX4 9 "MadeCalls$Outcome" "address" "I" ∈ xALL := xALL_of (i := 166) (by decide +kernel) (by decide +kernel)
theorem fl_X8_123 : Cond.fieldLink RX8 123 "MadeCalls$Outcome" "address" "I" ∈ xALL := xALL_of (i := 167) (by decide +kernel) (by decide +kernel)
theorem fl_X6_226 : Cond.fieldLink RX6 226 "MadeCalls$Outcome" "address" "I" ∈ xALL := xALL_of (i := 168) (by decide +kernel) (by decide +kernel)
theorem fl_X4_15 : Cond.fieldLink RX4 15 "MadeCalls$Outcome" "offset" "I" ∈ xALL := xALL_of (i := 169) (by decide +kernel) (by decide +kernel)
theorem fl_X8_126 : Cond.fieldLink RX8 126 "MadeCalls$Outcome" "offset" "I" ∈ xALL := xALL_of (i := 170) (by decide +kernel) (by decide +kernel)
theorem fl_X6_227 : Cond.fieldLink RX6 227 "MadeCalls$Outcome" "offset" "I" ∈ xALL := xALL_of (i := 171) (by decide +kernel) (by decide +kernel)
theorem fl_X4_24 : Cond.fieldLink RX4 24 "MadeCalls$Outcome" "thrown" "I" ∈ xALL := xALL_of (i := 172) (by decide +kernel) (by decide +kernel)
theorem fl_X8_129 : Cond.fieldLink RX8 129 "MadeCalls$Outcome" "thrown" "I" ∈ xALL := xALL_of (i := 173) (by decide +kernel) (by decide +kernel)
theorem fl_X6_223 : Cond.fieldLink RX6 223 "MadeCalls$Outcome" "thrown" "I" ∈ xALL := xALL_of (i := 174) (by decide +kernel) (by decide +kernel)
theorem cl_X6_22 : Cond.classLink RX6 22 RX1 ∈ xALL := xALL_of (i := 186) (by decide +kernel) (by decide +kernel)
theorem it_X1 : Cond.instantiable RX1 9 ∈ xALL := xALL_of (i := 188) (by decide +kernel) (by decide +kernel)
theorem im_X1_init : Cond.instanceMethod yX1_init ∈ xALL := xALL_of (i := 190) (by decide +kernel) (by decide +kernel)
theorem cd_X1_init : Cond.code yX1_init cX1_init 1 none ∈ xALL := xALL_of (i := 191) (by decide +kernel) (by decide +kernel)
theorem fl_X1_9 : Cond.fieldLink RX1 9 "MadeCalls$Frame" "locals" "[I" ∈ xALL := xALL_of (i := 193) (by decide +kernel) (by decide +kernel)
theorem fl_X6_230 : Cond.fieldLink RX6 230 "MadeCalls$Frame" "locals" "[I" ∈ xALL := xALL_of (i := 194) (by decide +kernel) (by decide +kernel)
theorem fl_X1_19 : Cond.fieldLink RX1 19 "MadeCalls$Frame" "has" "I" ∈ xALL := xALL_of (i := 195) (by decide +kernel) (by decide +kernel)
theorem fl_X6_166 : Cond.fieldLink RX6 166 "MadeCalls$Frame" "has" "I" ∈ xALL := xALL_of (i := 196) (by decide +kernel) (by decide +kernel)
theorem fl_X1_15 : Cond.fieldLink RX1 15 "MadeCalls$Frame" "address" "I" ∈ xALL := xALL_of (i := 197) (by decide +kernel) (by decide +kernel)
theorem fl_X6_148 : Cond.fieldLink RX6 148 "MadeCalls$Frame" "address" "I" ∈ xALL := xALL_of (i := 198) (by decide +kernel) (by decide +kernel)
theorem fl_X1_22 : Cond.fieldLink RX1 22 "MadeCalls$Frame" "next" "I" ∈ xALL := xALL_of (i := 199) (by decide +kernel) (by decide +kernel)
theorem fl_X6_151 : Cond.fieldLink RX6 151 "MadeCalls$Frame" "next" "I" ∈ xALL := xALL_of (i := 200) (by decide +kernel) (by decide +kernel)
theorem fl_X1_34 : Cond.fieldLink RX1 34 "MadeCalls$Frame" "made" "LMadeCalls$Made;" ∈ xALL := xALL_of (i := 201) (by decide +kernel) (by decide +kernel)
theorem fl_X6_119 : Cond.fieldLink RX6 119 "MadeCalls$Frame" "made" "LMadeCalls$Made;" ∈ xALL := xALL_of (i := 202) (by decide +kernel) (by decide +kernel)
theorem fl_X1_25 : Cond.fieldLink RX1 25 "MadeCalls$Frame" "nextRow" "I" ∈ xALL := xALL_of (i := 203) (by decide +kernel) (by decide +kernel)
theorem fl_X6_160 : Cond.fieldLink RX6 160 "MadeCalls$Frame" "nextRow" "I" ∈ xALL := xALL_of (i := 204) (by decide +kernel) (by decide +kernel)
theorem fl_X1_28 : Cond.fieldLink RX1 28 "MadeCalls$Frame" "catchAt" "I" ∈ xALL := xALL_of (i := 205) (by decide +kernel) (by decide +kernel)
theorem fl_X6_203 : Cond.fieldLink RX6 203 "MadeCalls$Frame" "catchAt" "I" ∈ xALL := xALL_of (i := 206) (by decide +kernel) (by decide +kernel)
theorem fl_X1_31 : Cond.fieldLink RX1 31 "MadeCalls$Frame" "catchRow" "I" ∈ xALL := xALL_of (i := 207) (by decide +kernel) (by decide +kernel)
theorem fl_X6_206 : Cond.fieldLink RX6 206 "MadeCalls$Frame" "catchRow" "I" ∈ xALL := xALL_of (i := 208) (by decide +kernel) (by decide +kernel)
theorem fl_X6_217 : Cond.fieldLink RX6 217 "MadeCalls$Frame" "into" "I" ∈ xALL := xALL_of (i := 209) (by decide +kernel) (by decide +kernel)
theorem fl_X6_12 : Cond.fieldLink RX6 12 "MadeCalls$Runner" "outcome" "LMadeCalls$Outcome;" ∈ xALL := xALL_of (i := 229) (by decide +kernel) (by decide +kernel)
theorem fl_X8_114 : Cond.fieldLink RX8 114 "MadeCalls$Runner" "outcome" "LMadeCalls$Outcome;" ∈ xALL := xALL_of (i := 230) (by decide +kernel) (by decide +kernel)
theorem fl_X6_18 : Cond.fieldLink RX6 18 "MadeCalls$Runner" "builtIns" "[I" ∈ xALL := xALL_of (i := 231) (by decide +kernel) (by decide +kernel)
theorem fl_X8_132 : Cond.fieldLink RX8 132 "MadeCalls$Runner" "builtIns" "[I" ∈ xALL := xALL_of (i := 232) (by decide +kernel) (by decide +kernel)
theorem fl_X6_39 : Cond.fieldLink RX6 39 "MadeCalls$Runner" "memory" "LMadeCalls$Memory;" ∈ xALL := xALL_of (i := 233) (by decide +kernel) (by decide +kernel)
theorem fl_X6_43 : Cond.fieldLink RX6 43 "MadeCalls$Runner" "shelf" "LMadeCalls$Shelf;" ∈ xALL := xALL_of (i := 234) (by decide +kernel) (by decide +kernel)
theorem fl_X6_47 : Cond.fieldLink RX6 47 "MadeCalls$Runner" "globals" "[I" ∈ xALL := xALL_of (i := 235) (by decide +kernel) (by decide +kernel)
theorem fl_X6_50 : Cond.fieldLink RX6 50 "MadeCalls$Runner" "counts" "[I" ∈ xALL := xALL_of (i := 236) (by decide +kernel) (by decide +kernel)
theorem fl_X6_24 : Cond.fieldLink RX6 24 "MadeCalls$Runner" "frames" "[LMadeCalls$Frame;" ∈ xALL := xALL_of (i := 237) (by decide +kernel) (by decide +kernel)
theorem fl_X6_28 : Cond.fieldLink RX6 28 "MadeCalls$Runner" "handed" "[I" ∈ xALL := xALL_of (i := 238) (by decide +kernel) (by decide +kernel)
theorem fl_X6_33 : Cond.fieldLink RX6 33 "MadeCalls$Runner" "walked" "[I" ∈ xALL := xALL_of (i := 239) (by decide +kernel) (by decide +kernel)
theorem fl_X6_57 : Cond.fieldLink RX6 57 "MadeCalls$Runner" "usesMade" "Z" ∈ xALL := xALL_of (i := 240) (by decide +kernel) (by decide +kernel)
theorem fl_X6_61 : Cond.fieldLink RX6 61 "MadeCalls$Runner" "depth" "I" ∈ xALL := xALL_of (i := 241) (by decide +kernel) (by decide +kernel)
theorem fl_X6_65 : Cond.fieldLink RX6 65 "MadeCalls$Runner" "steps" "I" ∈ xALL := xALL_of (i := 242) (by decide +kernel) (by decide +kernel)
theorem fl_X6_36 : Cond.fieldLink RX6 36 "MadeCalls$Runner" "rows" "[I" ∈ xALL := xALL_of (i := 243) (by decide +kernel) (by decide +kernel)
theorem fl_X6_163 : Cond.fieldLink RX6 163 "MadeCalls$Runner" "base" "I" ∈ xALL := xALL_of (i := 244) (by decide +kernel) (by decide +kernel)
theorem fl_X6_68 : Cond.fieldLink RX6 68 "MadeCalls$Runner" "atAddress" "I" ∈ xALL := xALL_of (i := 245) (by decide +kernel) (by decide +kernel)
theorem fl_X6_71 : Cond.fieldLink RX6 71 "MadeCalls$Runner" "atOffset" "I" ∈ xALL := xALL_of (i := 246) (by decide +kernel) (by decide +kernel)
theorem fl_X8_9 : Cond.fieldLink RX8 9 "MadeCalls" "counts" "[I" ∈ xALL := xALL_of (i := 280) (by decide +kernel) (by decide +kernel)
theorem fl_X8_13 : Cond.fieldLink RX8 13 "MadeCalls" "globals" "[I" ∈ xALL := xALL_of (i := 281) (by decide +kernel) (by decide +kernel)
theorem fl_X8_16 : Cond.fieldLink RX8 16 "MadeCalls" "arguments" "[I" ∈ xALL := xALL_of (i := 282) (by decide +kernel) (by decide +kernel)
theorem fl_X8_33 : Cond.fieldLink RX8 33 "MadeCalls" "shelf" "LMadeCalls$Shelf;" ∈ xALL := xALL_of (i := 283) (by decide +kernel) (by decide +kernel)
theorem fl_X8_42 : Cond.fieldLink RX8 42 "MadeCalls" "memory" "LMadeCalls$Memory;" ∈ xALL := xALL_of (i := 284) (by decide +kernel) (by decide +kernel)
theorem fl_X8_51 : Cond.fieldLink RX8 51 "MadeCalls" "runner" "LMadeCalls$Runner;" ∈ xALL := xALL_of (i := 285) (by decide +kernel) (by decide +kernel)
theorem fl_X8_55 : Cond.fieldLink RX8 55 "MadeCalls" "unmakable" "I" ∈ xALL := xALL_of (i := 286) (by decide +kernel) (by decide +kernel)
theorem ml_L_44 : Cond.methodLink RL 44 yX8_feed ∈ xALL := xALL_of (i := 302) (by decide +kernel) (by decide +kernel)
theorem im_X8_feed : Cond.instanceMethod yX8_feed ∈ xALL := xALL_of (i := 303) (by decide +kernel) (by decide +kernel)
theorem se_X8_feed : Cond.selects RX8 yX8_feed yX8_feed ∈ xALL := xALL_of (i := 304) (by decide +kernel) (by decide +kernel)
theorem cd_X8_feed : Cond.code yX8_feed cX8_feed 7 (some .int) ∈ xALL := xALL_of (i := 305) (by decide +kernel) (by decide +kernel)
theorem ml_X8_73 : Cond.methodLink RX8 73 yX3_change ∈ xALL := xALL_of (i := 306) (by decide +kernel) (by decide +kernel)
theorem im_X3_change : Cond.instanceMethod yX3_change ∈ xALL := xALL_of (i := 307) (by decide +kernel) (by decide +kernel)
theorem se_X3_change : Cond.selects RX3 yX3_change yX3_change ∈ xALL := xALL_of (i := 308) (by decide +kernel) (by decide +kernel)
theorem cd_X3_change : Cond.code yX3_change cX3_change 4 (some .int) ∈ xALL := xALL_of (i := 309) (by decide +kernel) (by decide +kernel)
theorem ml_X3_19 : Cond.methodLink RX3 19 yX7_dropPage ∈ xALL := xALL_of (i := 310) (by decide +kernel) (by decide +kernel)
theorem im_X7_dropPage : Cond.instanceMethod yX7_dropPage ∈ xALL := xALL_of (i := 311) (by decide +kernel) (by decide +kernel)
theorem se_X7_dropPage : Cond.selects RX7 yX7_dropPage yX7_dropPage ∈ xALL := xALL_of (i := 312) (by decide +kernel) (by decide +kernel)
theorem cd_X7_dropPage : Cond.code yX7_dropPage cX7_dropPage 4 (some .int) ∈ xALL := xALL_of (i := 313) (by decide +kernel) (by decide +kernel)
theorem ml_X7_40 : Cond.methodLink RX7 40 yX2_hasPage ∈ xALL := xALL_of (i := 314) (by decide +kernel) (by decide +kernel)
theorem im_X2_hasPage : Cond.instanceMethod yX2_hasPage ∈ xALL := xALL_of (i := 315) (by decide +kernel) (by decide +kernel)
theorem se_X2_hasPage : Cond.selects RX2 yX2_hasPage yX2_hasPage ∈ xALL := xALL_of (i := 316) (by decide +kernel) (by decide +kernel)
theorem cd_X2_hasPage : Cond.code yX2_hasPage cX2_hasPage 2 (some .boolean) ∈ xALL := xALL_of (i := 317) (by decide +kernel) (by decide +kernel)
theorem ml_X7_29 : Cond.methodLink RX7 29 yX7_dropAt ∈ xALL := xALL_of (i := 318) (by decide +kernel) (by decide +kernel)
theorem im_X7_dropAt : Cond.instanceMethod yX7_dropAt ∈ xALL := xALL_of (i := 320) (by decide +kernel) (by decide +kernel)
theorem cd_X7_dropAt : Cond.code yX7_dropAt cX7_dropAt 4 none ∈ xALL := xALL_of (i := 321) (by decide +kernel) (by decide +kernel)
theorem ml_L_56 : Cond.methodLink RL 56 yX8_make ∈ xALL := xALL_of (i := 322) (by decide +kernel) (by decide +kernel)
theorem im_X8_make : Cond.instanceMethod yX8_make ∈ xALL := xALL_of (i := 323) (by decide +kernel) (by decide +kernel)
theorem se_X8_make : Cond.selects RX8 yX8_make yX8_make ∈ xALL := xALL_of (i := 324) (by decide +kernel) (by decide +kernel)
theorem cd_X8_make : Cond.code yX8_make cX8_make 3 (some .int) ∈ xALL := xALL_of (i := 325) (by decide +kernel) (by decide +kernel)
theorem ml_X8_78 : Cond.methodLink RX8 78 yX8_isAddress ∈ xALL := xALL_of (i := 326) (by decide +kernel) (by decide +kernel)
theorem ss_X8_isAddress : Cond.static yX8_isAddress ∈ xALL := xALL_of (i := 327) (by decide +kernel) (by decide +kernel)
theorem cd_X8_isAddress : Cond.code yX8_isAddress cX8_isAddress 1 (some .boolean) ∈ xALL := xALL_of (i := 328) (by decide +kernel) (by decide +kernel)
theorem ml_X8_81 : Cond.methodLink RX8 81 yX3_hasRoutine ∈ xALL := xALL_of (i := 329) (by decide +kernel) (by decide +kernel)
theorem im_X3_hasRoutine : Cond.instanceMethod yX3_hasRoutine ∈ xALL := xALL_of (i := 330) (by decide +kernel) (by decide +kernel)
theorem se_X3_hasRoutine : Cond.selects RX3 yX3_hasRoutine yX3_hasRoutine ∈ xALL := xALL_of (i := 331) (by decide +kernel) (by decide +kernel)
theorem cd_X3_hasRoutine : Cond.code yX3_hasRoutine cX3_hasRoutine 2 (some .boolean) ∈ xALL := xALL_of (i := 332) (by decide +kernel) (by decide +kernel)
theorem ml_X8_84 : Cond.methodLink RX8 84 yX7_draft ∈ xALL := xALL_of (i := 333) (by decide +kernel) (by decide +kernel)
theorem im_X7_draft : Cond.instanceMethod yX7_draft ∈ xALL := xALL_of (i := 334) (by decide +kernel) (by decide +kernel)
theorem se_X7_draft : Cond.selects RX7 yX7_draft yX7_draft ∈ xALL := xALL_of (i := 335) (by decide +kernel) (by decide +kernel)
theorem cd_X7_draft : Cond.code yX7_draft cX7_draft 1 (some (.object "MadeCalls$Made")) ∈ xALL := xALL_of (i := 336) (by decide +kernel) (by decide +kernel)
theorem ml_X8_88 : Cond.methodLink RX8 88 yX2_readAhead ∈ xALL := xALL_of (i := 337) (by decide +kernel) (by decide +kernel)
theorem im_X2_readAhead : Cond.instanceMethod yX2_readAhead ∈ xALL := xALL_of (i := 338) (by decide +kernel) (by decide +kernel)
theorem se_X2_readAhead : Cond.selects RX2 yX2_readAhead yX2_readAhead ∈ xALL := xALL_of (i := 339) (by decide +kernel) (by decide +kernel)
theorem cd_X2_readAhead : Cond.code yX2_readAhead cX2_readAhead 6 (some .int) ∈ xALL := xALL_of (i := 340) (by decide +kernel) (by decide +kernel)
theorem ml_X2_29 : Cond.methodLink RX2 29 yX3_read ∈ xALL := xALL_of (i := 341) (by decide +kernel) (by decide +kernel)
theorem im_X3_read : Cond.instanceMethod yX3_read ∈ xALL := xALL_of (i := 342) (by decide +kernel) (by decide +kernel)
theorem se_X3_read : Cond.selects RX3 yX3_read yX3_read ∈ xALL := xALL_of (i := 343) (by decide +kernel) (by decide +kernel)
theorem cd_X3_read : Cond.code yX3_read cX3_read 8 (some .int) ∈ xALL := xALL_of (i := 344) (by decide +kernel) (by decide +kernel)
theorem ss_X8_isPlace : Cond.static yX8_isPlace ∈ xALL := xALL_of (i := 346) (by decide +kernel) (by decide +kernel)
theorem cd_X8_isPlace : Cond.code yX8_isPlace cX8_isPlace 1 (some .boolean) ∈ xALL := xALL_of (i := 347) (by decide +kernel) (by decide +kernel)
theorem ml_X3_29 : Cond.methodLink RX3 29 yX0_isCode ∈ xALL := xALL_of (i := 348) (by decide +kernel) (by decide +kernel)
theorem ss_X0_isCode : Cond.static yX0_isCode ∈ xALL := xALL_of (i := 349) (by decide +kernel) (by decide +kernel)
theorem cd_X0_isCode : Cond.code yX0_isCode cX0_isCode 1 (some .boolean) ∈ xALL := xALL_of (i := 350) (by decide +kernel) (by decide +kernel)
theorem ml_X3_34 : Cond.methodLink RX3 34 yX0_formOf ∈ xALL := xALL_of (i := 351) (by decide +kernel) (by decide +kernel)
theorem ss_X0_formOf : Cond.static yX0_formOf ∈ xALL := xALL_of (i := 352) (by decide +kernel) (by decide +kernel)
theorem cd_X0_formOf : Cond.code yX0_formOf cX0_formOf 1 (some .int) ∈ xALL := xALL_of (i := 353) (by decide +kernel) (by decide +kernel)
theorem ml_X0_11 : Cond.methodLink RX0 11 yX0_isCode ∈ xALL := xALL_of (i := 354) (by decide +kernel) (by decide +kernel)
theorem fl_X0_15 : Cond.fieldLink RX0 15 "MadeCalls$Code" "FORMS" "[I" ∈ xALL := xALL_of (i := 355) (by decide +kernel) (by decide +kernel)
theorem ml_X3_39 : Cond.methodLink RX3 39 yX0_fits ∈ xALL := xALL_of (i := 357) (by decide +kernel) (by decide +kernel)
theorem ss_X0_fits : Cond.static yX0_fits ∈ xALL := xALL_of (i := 358) (by decide +kernel) (by decide +kernel)
theorem cd_X0_fits : Cond.code yX0_fits cX0_fits 3 (some .boolean) ∈ xALL := xALL_of (i := 359) (by decide +kernel) (by decide +kernel)
theorem ml_X0_19 : Cond.methodLink RX0 19 yX0_isCell ∈ xALL := xALL_of (i := 360) (by decide +kernel) (by decide +kernel)
theorem ss_X0_isCell : Cond.static yX0_isCell ∈ xALL := xALL_of (i := 361) (by decide +kernel) (by decide +kernel)
theorem cd_X0_isCell : Cond.code yX0_isCell cX0_isCell 2 (some .boolean) ∈ xALL := xALL_of (i := 362) (by decide +kernel) (by decide +kernel)
theorem ml_X3_43 : Cond.methodLink RX3 43 yX0_formBehind ∈ xALL := xALL_of (i := 363) (by decide +kernel) (by decide +kernel)
theorem ss_X0_formBehind : Cond.static yX0_formBehind ∈ xALL := xALL_of (i := 364) (by decide +kernel) (by decide +kernel)
theorem cd_X0_formBehind : Cond.code yX0_formBehind cX0_formBehind 2 (some .int) ∈ xALL := xALL_of (i := 365) (by decide +kernel) (by decide +kernel)
theorem ml_X2_41 : Cond.methodLink RX2 41 yX2_linkTargets ∈ xALL := xALL_of (i := 366) (by decide +kernel) (by decide +kernel)
theorem im_X2_linkTargets : Cond.instanceMethod yX2_linkTargets ∈ xALL := xALL_of (i := 368) (by decide +kernel) (by decide +kernel)
theorem cd_X2_linkTargets : Cond.code yX2_linkTargets cX2_linkTargets 6 (some .int) ∈ xALL := xALL_of (i := 369) (by decide +kernel) (by decide +kernel)
theorem ml_X2_45 : Cond.methodLink RX2 45 yX0_columnOfOffset ∈ xALL := xALL_of (i := 370) (by decide +kernel) (by decide +kernel)
theorem ss_X0_columnOfOffset : Cond.static yX0_columnOfOffset ∈ xALL := xALL_of (i := 371) (by decide +kernel) (by decide +kernel)
theorem cd_X0_columnOfOffset : Cond.code yX0_columnOfOffset cX0_columnOfOffset 1 (some .int) ∈ xALL := xALL_of (i := 372) (by decide +kernel) (by decide +kernel)
theorem ml_X2_49 : Cond.methodLink RX2 49 yX2_indexOf ∈ xALL := xALL_of (i := 373) (by decide +kernel) (by decide +kernel)
theorem im_X2_indexOf : Cond.instanceMethod yX2_indexOf ∈ xALL := xALL_of (i := 375) (by decide +kernel) (by decide +kernel)
theorem cd_X2_indexOf : Cond.code yX2_indexOf cX2_indexOf 3 (some .int) ∈ xALL := xALL_of (i := 376) (by decide +kernel) (by decide +kernel)
theorem ml_X8_94 : Cond.methodLink RX8 94 yX7_find ∈ xALL := xALL_of (i := 377) (by decide +kernel) (by decide +kernel)
theorem im_X7_find : Cond.instanceMethod yX7_find ∈ xALL := xALL_of (i := 378) (by decide +kernel) (by decide +kernel)
theorem se_X7_find : Cond.selects RX7 yX7_find yX7_find ∈ xALL := xALL_of (i := 379) (by decide +kernel) (by decide +kernel)
theorem cd_X7_find : Cond.code yX7_find cX7_find 3 (some (.object "MadeCalls$Made")) ∈ xALL := xALL_of (i := 380) (by decide +kernel) (by decide +kernel)
theorem ml_X8_101 : Cond.methodLink RX8 101 yX7_keepDraft ∈ xALL := xALL_of (i := 381) (by decide +kernel) (by decide +kernel)
theorem im_X7_keepDraft : Cond.instanceMethod yX7_keepDraft ∈ xALL := xALL_of (i := 382) (by decide +kernel) (by decide +kernel)
theorem se_X7_keepDraft : Cond.selects RX7 yX7_keepDraft yX7_keepDraft ∈ xALL := xALL_of (i := 383) (by decide +kernel) (by decide +kernel)
theorem cd_X7_keepDraft : Cond.code yX7_keepDraft cX7_keepDraft 1 none ∈ xALL := xALL_of (i := 384) (by decide +kernel) (by decide +kernel)
theorem ml_L_60 : Cond.methodLink RL 60 yX8_place ∈ xALL := xALL_of (i := 385) (by decide +kernel) (by decide +kernel)
theorem im_X8_place : Cond.instanceMethod yX8_place ∈ xALL := xALL_of (i := 386) (by decide +kernel) (by decide +kernel)
theorem se_X8_place : Cond.selects RX8 yX8_place yX8_place ∈ xALL := xALL_of (i := 387) (by decide +kernel) (by decide +kernel)
theorem cd_X8_place : Cond.code yX8_place cX8_place 1 (some .int) ∈ xALL := xALL_of (i := 388) (by decide +kernel) (by decide +kernel)
theorem ml_L_64 : Cond.methodLink RL 64 yX8_argument ∈ xALL := xALL_of (i := 389) (by decide +kernel) (by decide +kernel)
theorem im_X8_argument : Cond.instanceMethod yX8_argument ∈ xALL := xALL_of (i := 390) (by decide +kernel) (by decide +kernel)
theorem se_X8_argument : Cond.selects RX8 yX8_argument yX8_argument ∈ xALL := xALL_of (i := 391) (by decide +kernel) (by decide +kernel)
theorem cd_X8_argument : Cond.code yX8_argument cX8_argument 3 (some .int) ∈ xALL := xALL_of (i := 392) (by decide +kernel) (by decide +kernel)
theorem ml_L_68 : Cond.methodLink RL 68 yX8_call ∈ xALL := xALL_of (i := 393) (by decide +kernel) (by decide +kernel)
theorem im_X8_call : Cond.instanceMethod yX8_call ∈ xALL := xALL_of (i := 394) (by decide +kernel) (by decide +kernel)
theorem se_X8_call : Cond.selects RX8 yX8_call yX8_call ∈ xALL := xALL_of (i := 395) (by decide +kernel) (by decide +kernel)
theorem cd_X8_call : Cond.code yX8_call cX8_call 4 (some .int) ∈ xALL := xALL_of (i := 396) (by decide +kernel) (by decide +kernel)
theorem ml_X8_107 : Cond.methodLink RX8 107 yX8_refusalOf ∈ xALL := xALL_of (i := 397) (by decide +kernel) (by decide +kernel)
theorem im_X8_refusalOf : Cond.instanceMethod yX8_refusalOf ∈ xALL := xALL_of (i := 399) (by decide +kernel) (by decide +kernel)
theorem cd_X8_refusalOf : Cond.code yX8_refusalOf cX8_refusalOf 3 (some .int) ∈ xALL := xALL_of (i := 400) (by decide +kernel) (by decide +kernel)
theorem ml_X8_110 : Cond.methodLink RX8 110 yX6_run ∈ xALL := xALL_of (i := 401) (by decide +kernel) (by decide +kernel)
theorem im_X6_run : Cond.instanceMethod yX6_run ∈ xALL := xALL_of (i := 402) (by decide +kernel) (by decide +kernel)
theorem se_X6_run : Cond.selects RX6 yX6_run yX6_run ∈ xALL := xALL_of (i := 403) (by decide +kernel) (by decide +kernel)
theorem cd_X6_run : Cond.code yX6_run cX6_run 7 (some .int) ∈ xALL := xALL_of (i := 404) (by decide +kernel) (by decide +kernel)
theorem ml_X6_54 : Cond.methodLink RX6 54 yX4_clear ∈ xALL := xALL_of (i := 405) (by decide +kernel) (by decide +kernel)
theorem im_X4_clear : Cond.instanceMethod yX4_clear ∈ xALL := xALL_of (i := 406) (by decide +kernel) (by decide +kernel)
theorem se_X4_clear : Cond.selects RX4 yX4_clear yX4_clear ∈ xALL := xALL_of (i := 407) (by decide +kernel) (by decide +kernel)
theorem cd_X4_clear : Cond.code yX4_clear cX4_clear 1 none ∈ xALL := xALL_of (i := 408) (by decide +kernel) (by decide +kernel)
theorem ml_X6_74 : Cond.methodLink RX6 74 yX6_enter ∈ xALL := xALL_of (i := 409) (by decide +kernel) (by decide +kernel)
theorem im_X6_enter : Cond.instanceMethod yX6_enter ∈ xALL := xALL_of (i := 411) (by decide +kernel) (by decide +kernel)
theorem cd_X6_enter : Cond.code yX6_enter cX6_enter 5 none ∈ xALL := xALL_of (i := 412) (by decide +kernel) (by decide +kernel)
theorem ml_X6_89 : Cond.methodLink RX6 89 yX6_valueOfBuiltIn ∈ xALL := xALL_of (i := 413) (by decide +kernel) (by decide +kernel)
theorem im_X6_valueOfBuiltIn : Cond.instanceMethod yX6_valueOfBuiltIn ∈ xALL := xALL_of (i := 415) (by decide +kernel) (by decide +kernel)
theorem cd_X6_valueOfBuiltIn : Cond.code yX6_valueOfBuiltIn cX6_valueOfBuiltIn 3 (some .int) ∈ xALL := xALL_of (i := 416) (by decide +kernel) (by decide +kernel)
theorem ml_X6_123 : Cond.methodLink RX6 123 yX6_spendStep ∈ xALL := xALL_of (i := 417) (by decide +kernel) (by decide +kernel)
theorem im_X6_spendStep : Cond.instanceMethod yX6_spendStep ∈ xALL := xALL_of (i := 419) (by decide +kernel) (by decide +kernel)
theorem cd_X6_spendStep : Cond.code yX6_spendStep cX6_spendStep 1 (some .boolean) ∈ xALL := xALL_of (i := 420) (by decide +kernel) (by decide +kernel)
theorem ml_X6_97 : Cond.methodLink RX6 97 yX6_fail ∈ xALL := xALL_of (i := 421) (by decide +kernel) (by decide +kernel)
theorem im_X6_fail : Cond.instanceMethod yX6_fail ∈ xALL := xALL_of (i := 423) (by decide +kernel) (by decide +kernel)
theorem cd_X6_fail : Cond.code yX6_fail cX6_fail 2 none ∈ xALL := xALL_of (i := 424) (by decide +kernel) (by decide +kernel)
theorem ml_X6_127 : Cond.methodLink RX6 127 yX6_sumOfHanded ∈ xALL := xALL_of (i := 425) (by decide +kernel) (by decide +kernel)
theorem im_X6_sumOfHanded : Cond.instanceMethod yX6_sumOfHanded ∈ xALL := xALL_of (i := 427) (by decide +kernel) (by decide +kernel)
theorem cd_X6_sumOfHanded : Cond.code yX6_sumOfHanded cX6_sumOfHanded 4 (some .int) ∈ xALL := xALL_of (i := 428) (by decide +kernel) (by decide +kernel)
theorem ml_X6_131 : Cond.methodLink RX6 131 yX6_greatestOfHanded ∈ xALL := xALL_of (i := 429) (by decide +kernel) (by decide +kernel)
theorem im_X6_greatestOfHanded : Cond.instanceMethod yX6_greatestOfHanded ∈ xALL := xALL_of (i := 431) (by decide +kernel) (by decide +kernel)
theorem cd_X6_greatestOfHanded : Cond.code yX6_greatestOfHanded cX6_greatestOfHanded 4 (some .int) ∈ xALL := xALL_of (i := 432) (by decide +kernel) (by decide +kernel)
theorem ml_X6_140 : Cond.methodLink RX6 140 yJ9_max_7cf53 ∈ xALL := xALL_of (i := 433) (by decide +kernel) (by decide +kernel)
theorem ml_X6_134 : Cond.methodLink RX6 134 yX6_handedNotZero ∈ xALL := xALL_of (i := 434) (by decide +kernel) (by decide +kernel)
theorem im_X6_handedNotZero : Cond.instanceMethod yX6_handedNotZero ∈ xALL := xALL_of (i := 436) (by decide +kernel) (by decide +kernel)
theorem cd_X6_handedNotZero : Cond.code yX6_handedNotZero cX6_handedNotZero 4 (some .int) ∈ xALL := xALL_of (i := 437) (by decide +kernel) (by decide +kernel)
theorem ml_X6_137 : Cond.methodLink RX6 137 yX6_byteAtFirstHanded ∈ xALL := xALL_of (i := 438) (by decide +kernel) (by decide +kernel)
theorem im_X6_byteAtFirstHanded : Cond.instanceMethod yX6_byteAtFirstHanded ∈ xALL := xALL_of (i := 440) (by decide +kernel) (by decide +kernel)
theorem cd_X6_byteAtFirstHanded : Cond.code yX6_byteAtFirstHanded cX6_byteAtFirstHanded 2 (some .int) ∈ xALL := xALL_of (i := 441) (by decide +kernel) (by decide +kernel)
theorem ml_X6_93 : Cond.methodLink RX6 93 yX6_give ∈ xALL := xALL_of (i := 443) (by decide +kernel) (by decide +kernel)
theorem im_X6_give : Cond.instanceMethod yX6_give ∈ xALL := xALL_of (i := 445) (by decide +kernel) (by decide +kernel)
theorem cd_X6_give : Cond.code yX6_give cX6_give 3 none ∈ xALL := xALL_of (i := 446) (by decide +kernel) (by decide +kernel)
theorem ml_X6_180 : Cond.methodLink RX6 180 yX6_set ∈ xALL := xALL_of (i := 447) (by decide +kernel) (by decide +kernel)
theorem im_X6_set : Cond.instanceMethod yX6_set ∈ xALL := xALL_of (i := 449) (by decide +kernel) (by decide +kernel)
theorem cd_X6_set : Cond.code yX6_set cX6_set 4 none ∈ xALL := xALL_of (i := 450) (by decide +kernel) (by decide +kernel)
theorem ml_X6_233 : Cond.methodLink RX6 233 yX6_indexOfCell ∈ xALL := xALL_of (i := 451) (by decide +kernel) (by decide +kernel)
theorem ss_X6_indexOfCell : Cond.static yX6_indexOfCell ∈ xALL := xALL_of (i := 452) (by decide +kernel) (by decide +kernel)
theorem cd_X6_indexOfCell : Cond.code yX6_indexOfCell cX6_indexOfCell 1 (some .int) ∈ xALL := xALL_of (i := 453) (by decide +kernel) (by decide +kernel)
theorem ml_X6_100 : Cond.methodLink RX6 100 yX3_hasRoutine ∈ xALL := xALL_of (i := 454) (by decide +kernel) (by decide +kernel)
theorem ml_X6_109 : Cond.methodLink RX6 109 yX1_open ∈ xALL := xALL_of (i := 455) (by decide +kernel) (by decide +kernel)
theorem im_X1_open : Cond.instanceMethod yX1_open ∈ xALL := xALL_of (i := 456) (by decide +kernel) (by decide +kernel)
theorem se_X1_open : Cond.selects RX1 yX1_open yX1_open ∈ xALL := xALL_of (i := 457) (by decide +kernel) (by decide +kernel)
theorem cd_X1_open : Cond.code yX1_open cX1_open 6 none ∈ xALL := xALL_of (i := 458) (by decide +kernel) (by decide +kernel)
theorem ml_X6_113 : Cond.methodLink RX6 113 yX7_find ∈ xALL := xALL_of (i := 459) (by decide +kernel) (by decide +kernel)
theorem ml_X6_78 : Cond.methodLink RX6 78 yX6_fetch ∈ xALL := xALL_of (i := 460) (by decide +kernel) (by decide +kernel)
theorem im_X6_fetch : Cond.instanceMethod yX6_fetch ∈ xALL := xALL_of (i := 462) (by decide +kernel) (by decide +kernel)
theorem cd_X6_fetch : Cond.code yX6_fetch cX6_fetch 3 (some .boolean) ∈ xALL := xALL_of (i := 463) (by decide +kernel) (by decide +kernel)
theorem ml_X6_154 : Cond.methodLink RX6 154 yX1_goesByMade ∈ xALL := xALL_of (i := 464) (by decide +kernel) (by decide +kernel)
theorem im_X1_goesByMade : Cond.instanceMethod yX1_goesByMade ∈ xALL := xALL_of (i := 465) (by decide +kernel) (by decide +kernel)
theorem se_X1_goesByMade : Cond.selects RX1 yX1_goesByMade yX1_goesByMade ∈ xALL := xALL_of (i := 466) (by decide +kernel) (by decide +kernel)
theorem cd_X1_goesByMade : Cond.code yX1_goesByMade cX1_goesByMade 1 (some .boolean) ∈ xALL := xALL_of (i := 467) (by decide +kernel) (by decide +kernel)
theorem ml_X6_169 : Cond.methodLink RX6 169 yX3_read ∈ xALL := xALL_of (i := 468) (by decide +kernel) (by decide +kernel)
theorem ml_X6_82 : Cond.methodLink RX6 82 yX6_carryOut ∈ xALL := xALL_of (i := 469) (by decide +kernel) (by decide +kernel)
theorem im_X6_carryOut : Cond.instanceMethod yX6_carryOut ∈ xALL := xALL_of (i := 471) (by decide +kernel) (by decide +kernel)
theorem cd_X6_carryOut : Cond.code yX6_carryOut cX6_carryOut 5 none ∈ xALL := xALL_of (i := 472) (by decide +kernel) (by decide +kernel)
theorem ml_X6_173 : Cond.methodLink RX6 173 yX6_valueOf ∈ xALL := xALL_of (i := 473) (by decide +kernel) (by decide +kernel)
theorem im_X6_valueOf : Cond.instanceMethod yX6_valueOf ∈ xALL := xALL_of (i := 475) (by decide +kernel) (by decide +kernel)
theorem cd_X6_valueOf : Cond.code yX6_valueOf cX6_valueOf 3 (some .int) ∈ xALL := xALL_of (i := 476) (by decide +kernel) (by decide +kernel)
theorem ml_X6_177 : Cond.methodLink RX6 177 yX6_leave ∈ xALL := xALL_of (i := 477) (by decide +kernel) (by decide +kernel)
theorem im_X6_leave : Cond.instanceMethod yX6_leave ∈ xALL := xALL_of (i := 479) (by decide +kernel) (by decide +kernel)
theorem cd_X6_leave : Cond.code yX6_leave cX6_leave 2 none ∈ xALL := xALL_of (i := 480) (by decide +kernel) (by decide +kernel)
theorem ml_X6_184 : Cond.methodLink RX6 184 yX6_load ∈ xALL := xALL_of (i := 481) (by decide +kernel) (by decide +kernel)
theorem im_X6_load : Cond.instanceMethod yX6_load ∈ xALL := xALL_of (i := 483) (by decide +kernel) (by decide +kernel)
theorem cd_X6_load : Cond.code yX6_load cX6_load 4 none ∈ xALL := xALL_of (i := 484) (by decide +kernel) (by decide +kernel)
theorem ml_X6_187 : Cond.methodLink RX6 187 yX6_store ∈ xALL := xALL_of (i := 485) (by decide +kernel) (by decide +kernel)
theorem im_X6_store : Cond.instanceMethod yX6_store ∈ xALL := xALL_of (i := 487) (by decide +kernel) (by decide +kernel)
theorem cd_X6_store : Cond.code yX6_store cX6_store 3 none ∈ xALL := xALL_of (i := 488) (by decide +kernel) (by decide +kernel)
theorem ml_X6_214 : Cond.methodLink RX6 214 yX3_change ∈ xALL := xALL_of (i := 489) (by decide +kernel) (by decide +kernel)
theorem ml_X6_190 : Cond.methodLink RX6 190 yX6_jump ∈ xALL := xALL_of (i := 490) (by decide +kernel) (by decide +kernel)
theorem im_X6_jump : Cond.instanceMethod yX6_jump ∈ xALL := xALL_of (i := 492) (by decide +kernel) (by decide +kernel)
theorem cd_X6_jump : Cond.code yX6_jump cX6_jump 3 none ∈ xALL := xALL_of (i := 493) (by decide +kernel) (by decide +kernel)
theorem ml_X6_194 : Cond.methodLink RX6 194 yX6_handOver ∈ xALL := xALL_of (i := 494) (by decide +kernel) (by decide +kernel)
theorem im_X6_handOver : Cond.instanceMethod yX6_handOver ∈ xALL := xALL_of (i := 496) (by decide +kernel) (by decide +kernel)
theorem cd_X6_handOver : Cond.code yX6_handOver cX6_handOver 4 none ∈ xALL := xALL_of (i := 497) (by decide +kernel) (by decide +kernel)
theorem ml_X6_197 : Cond.methodLink RX6 197 yX6_addressFor ∈ xALL := xALL_of (i := 498) (by decide +kernel) (by decide +kernel)
theorem ss_X6_addressFor : Cond.static yX6_addressFor ∈ xALL := xALL_of (i := 499) (by decide +kernel) (by decide +kernel)
theorem cd_X6_addressFor : Cond.code yX6_addressFor cX6_addressFor 1 (some .int) ∈ xALL := xALL_of (i := 500) (by decide +kernel) (by decide +kernel)
theorem ml_X6_200 : Cond.methodLink RX6 200 yX6_throwOut ∈ xALL := xALL_of (i := 501) (by decide +kernel) (by decide +kernel)
theorem im_X6_throwOut : Cond.instanceMethod yX6_throwOut ∈ xALL := xALL_of (i := 503) (by decide +kernel) (by decide +kernel)
theorem cd_X6_throwOut : Cond.code yX6_throwOut cX6_throwOut 4 none ∈ xALL := xALL_of (i := 504) (by decide +kernel) (by decide +kernel)
theorem ml_X6_209 : Cond.methodLink RX6 209 yX6_reckon ∈ xALL := xALL_of (i := 505) (by decide +kernel) (by decide +kernel)
theorem im_X6_reckon : Cond.instanceMethod yX6_reckon ∈ xALL := xALL_of (i := 507) (by decide +kernel) (by decide +kernel)
theorem cd_X6_reckon : Cond.code yX6_reckon cX6_reckon 6 none ∈ xALL := xALL_of (i := 508) (by decide +kernel) (by decide +kernel)
theorem ml_L_72 : Cond.methodLink RL 72 yX8_walk ∈ xALL := xALL_of (i := 509) (by decide +kernel) (by decide +kernel)
theorem im_X8_walk : Cond.instanceMethod yX8_walk ∈ xALL := xALL_of (i := 510) (by decide +kernel) (by decide +kernel)
theorem se_X8_walk : Cond.selects RX8 yX8_walk yX8_walk ∈ xALL := xALL_of (i := 511) (by decide +kernel) (by decide +kernel)
theorem cd_X8_walk : Cond.code yX8_walk cX8_walk 4 (some .int) ∈ xALL := xALL_of (i := 512) (by decide +kernel) (by decide +kernel)
theorem ml_L_76 : Cond.methodLink RL 76 yX8_result ∈ xALL := xALL_of (i := 513) (by decide +kernel) (by decide +kernel)
theorem im_X8_result : Cond.instanceMethod yX8_result ∈ xALL := xALL_of (i := 514) (by decide +kernel) (by decide +kernel)
theorem se_X8_result : Cond.selects RX8 yX8_result yX8_result ∈ xALL := xALL_of (i := 515) (by decide +kernel) (by decide +kernel)
theorem cd_X8_result : Cond.code yX8_result cX8_result 1 (some .int) ∈ xALL := xALL_of (i := 516) (by decide +kernel) (by decide +kernel)
theorem ml_L_80 : Cond.methodLink RL 80 yX8_fault ∈ xALL := xALL_of (i := 517) (by decide +kernel) (by decide +kernel)
theorem im_X8_fault : Cond.instanceMethod yX8_fault ∈ xALL := xALL_of (i := 518) (by decide +kernel) (by decide +kernel)
theorem se_X8_fault : Cond.selects RX8 yX8_fault yX8_fault ∈ xALL := xALL_of (i := 519) (by decide +kernel) (by decide +kernel)
theorem cd_X8_fault : Cond.code yX8_fault cX8_fault 3 (some .int) ∈ xALL := xALL_of (i := 520) (by decide +kernel) (by decide +kernel)
theorem ml_L_84 : Cond.methodLink RL 84 yX8_accelerate ∈ xALL := xALL_of (i := 521) (by decide +kernel) (by decide +kernel)
theorem im_X8_accelerate : Cond.instanceMethod yX8_accelerate ∈ xALL := xALL_of (i := 522) (by decide +kernel) (by decide +kernel)
theorem se_X8_accelerate : Cond.selects RX8 yX8_accelerate yX8_accelerate ∈ xALL := xALL_of (i := 523) (by decide +kernel) (by decide +kernel)
theorem cd_X8_accelerate : Cond.code yX8_accelerate cX8_accelerate 4 (some .int) ∈ xALL := xALL_of (i := 524) (by decide +kernel) (by decide +kernel)
theorem ml_L_88 : Cond.methodLink RL 88 yX8_kept ∈ xALL := xALL_of (i := 525) (by decide +kernel) (by decide +kernel)
theorem im_X8_kept : Cond.instanceMethod yX8_kept ∈ xALL := xALL_of (i := 526) (by decide +kernel) (by decide +kernel)
theorem se_X8_kept : Cond.selects RX8 yX8_kept yX8_kept ∈ xALL := xALL_of (i := 527) (by decide +kernel) (by decide +kernel)
theorem cd_X8_kept : Cond.code yX8_kept cX8_kept 2 (some .int) ∈ xALL := xALL_of (i := 528) (by decide +kernel) (by decide +kernel)
theorem ml_X8_135 : Cond.methodLink RX8 135 yX7_addressOf ∈ xALL := xALL_of (i := 529) (by decide +kernel) (by decide +kernel)
theorem im_X7_addressOf : Cond.instanceMethod yX7_addressOf ∈ xALL := xALL_of (i := 530) (by decide +kernel) (by decide +kernel)
theorem se_X7_addressOf : Cond.selects RX7 yX7_addressOf yX7_addressOf ∈ xALL := xALL_of (i := 531) (by decide +kernel) (by decide +kernel)
theorem cd_X7_addressOf : Cond.code yX7_addressOf cX7_addressOf 2 (some .int) ∈ xALL := xALL_of (i := 532) (by decide +kernel) (by decide +kernel)
theorem ml_L_92 : Cond.methodLink RL 92 yX8_drop ∈ xALL := xALL_of (i := 533) (by decide +kernel) (by decide +kernel)
theorem im_X8_drop : Cond.instanceMethod yX8_drop ∈ xALL := xALL_of (i := 534) (by decide +kernel) (by decide +kernel)
theorem se_X8_drop : Cond.selects RX8 yX8_drop yX8_drop ∈ xALL := xALL_of (i := 535) (by decide +kernel) (by decide +kernel)
theorem cd_X8_drop : Cond.code yX8_drop cX8_drop 2 (some .int) ∈ xALL := xALL_of (i := 536) (by decide +kernel) (by decide +kernel)
theorem ml_X8_139 : Cond.methodLink RX8 139 yX7_dropPage ∈ xALL := xALL_of (i := 537) (by decide +kernel) (by decide +kernel)
theorem ml_L_96 : Cond.methodLink RL 96 yX8_count ∈ xALL := xALL_of (i := 538) (by decide +kernel) (by decide +kernel)
theorem im_X8_count : Cond.instanceMethod yX8_count ∈ xALL := xALL_of (i := 539) (by decide +kernel) (by decide +kernel)
theorem se_X8_count : Cond.selects RX8 yX8_count yX8_count ∈ xALL := xALL_of (i := 540) (by decide +kernel) (by decide +kernel)
theorem cd_X8_count : Cond.code yX8_count cX8_count 2 (some .int) ∈ xALL := xALL_of (i := 541) (by decide +kernel) (by decide +kernel)
theorem ml_L_22 : Cond.methodLink RL 22 yL_cell ∈ xALL := xALL_of (i := 542) (by decide +kernel) (by decide +kernel)
theorem ss_L_cell : Cond.static yL_cell ∈ xALL := xALL_of (i := 543) (by decide +kernel) (by decide +kernel)
theorem cd_L_cell : Cond.code yL_cell cL_cell 2 (some .int) ∈ xALL := xALL_of (i := 544) (by decide +kernel) (by decide +kernel)
theorem ml_L_34 : Cond.methodLink RL 34 yL_poke ∈ xALL := xALL_of (i := 545) (by decide +kernel) (by decide +kernel)
theorem ss_L_poke : Cond.static yL_poke ∈ xALL := xALL_of (i := 546) (by decide +kernel) (by decide +kernel)
theorem cl_L_13 : Cond.classLink RL 13 RJx00060 ∈ xALL := xALL_of (i := 548) (by decide +kernel) (by decide +kernel)
theorem it_Jx00060 : Cond.instantiable RJx00060 6 ∈ xALL := xALL_of (i := 549) (by decide +kernel) (by decide +kernel)
theorem im_Jx00060_init_a7421 : Cond.instanceMethod yJx00060_init_a7421 ∈ xALL := xALL_of (i := 550) (by decide +kernel) (by decide +kernel)
theorem cd_Jx00060_init_a7421 : Cond.code yJx00060_init_a7421 cJx00060_init_a7421 2 none ∈ xALL := xALL_of (i := 551) (by decide +kernel) (by decide +kernel)
theorem it_J0 : Cond.instantiable RJ0 4 ∈ xALL := xALL_of (i := 616) (by decide +kernel) (by decide +kernel)
theorem ml_L_7 : Cond.methodLink RL 7 yX8_poke ∈ xALL := xALL_of (i := 622) (by decide +kernel) (by decide +kernel)
theorem im_X8_poke : Cond.instanceMethod yX8_poke ∈ xALL := xALL_of (i := 623) (by decide +kernel) (by decide +kernel)
theorem se_X8_poke : Cond.selects RX8 yX8_poke yX8_poke ∈ xALL := xALL_of (i := 624) (by decide +kernel) (by decide +kernel)
theorem cd_X8_poke : Cond.code yX8_poke cX8_poke 4 (some .int) ∈ xALL := xALL_of (i := 625) (by decide +kernel) (by decide +kernel)
theorem ml_X8_59 : Cond.methodLink RX8 59 yX8_isPlace ∈ xALL := xALL_of (i := 626) (by decide +kernel) (by decide +kernel)
theorem cl_X8_63 : Cond.classLink RX8 63 RJx00060 ∈ xALL := xALL_of (i := 627) (by decide +kernel) (by decide +kernel)
theorem ml_X8_67 : Cond.methodLink RX8 67 yJx00060_init_a7421 ∈ xALL := xALL_of (i := 629) (by decide +kernel) (by decide +kernel)
theorem ml_L_49 : Cond.methodLink RL 49 yL_peek ∈ xALL := xALL_of (i := 630) (by decide +kernel) (by decide +kernel)
theorem ss_L_peek : Cond.static yL_peek ∈ xALL := xALL_of (i := 631) (by decide +kernel) (by decide +kernel)
theorem ml_L_15 : Cond.methodLink RL 15 yX8_peek ∈ xALL := xALL_of (i := 633) (by decide +kernel) (by decide +kernel)
theorem im_X8_peek : Cond.instanceMethod yX8_peek ∈ xALL := xALL_of (i := 634) (by decide +kernel) (by decide +kernel)
theorem se_X8_peek : Cond.selects RX8 yX8_peek yX8_peek ∈ xALL := xALL_of (i := 635) (by decide +kernel) (by decide +kernel)
theorem cd_X8_peek : Cond.code yX8_peek cX8_peek 2 (some .int) ∈ xALL := xALL_of (i := 636) (by decide +kernel) (by decide +kernel)
theorem ml_L_53 : Cond.methodLink RL 53 yL_global ∈ xALL := xALL_of (i := 637) (by decide +kernel) (by decide +kernel)
theorem ss_L_global : Cond.static yL_global ∈ xALL := xALL_of (i := 638) (by decide +kernel) (by decide +kernel)
theorem ml_L_19 : Cond.methodLink RL 19 yX8_global ∈ xALL := xALL_of (i := 640) (by decide +kernel) (by decide +kernel)
theorem im_X8_global : Cond.instanceMethod yX8_global ∈ xALL := xALL_of (i := 641) (by decide +kernel) (by decide +kernel)
theorem se_X8_global : Cond.selects RX8 yX8_global yX8_global ∈ xALL := xALL_of (i := 642) (by decide +kernel) (by decide +kernel)
theorem cd_X8_global : Cond.code yX8_global cX8_global 4 (some .int) ∈ xALL := xALL_of (i := 643) (by decide +kernel) (by decide +kernel)
theorem cl_L_31 : Cond.classLink RL 31 RX9 ∈ xALL := xALL_of (i := 645) (by decide +kernel) (by decide +kernel)
theorem it_X9 : Cond.instantiable RX9 47 ∈ xALL := xALL_of (i := 646) (by decide +kernel) (by decide +kernel)
theorem ml_L_33 : Cond.methodLink RL 33 yX9_init ∈ xALL := xALL_of (i := 647) (by decide +kernel) (by decide +kernel)
theorem im_X9_init : Cond.instanceMethod yX9_init ∈ xALL := xALL_of (i := 648) (by decide +kernel) (by decide +kernel)
theorem cd_X9_init : Cond.code yX9_init cX9_init 2 none ∈ xALL := xALL_of (i := 649) (by decide +kernel) (by decide +kernel)
theorem fl_X9_77 : Cond.fieldLink RX9 77 "MadeCallsModel" "thrown" "I" ∈ xALL := xALL_of (i := 651) (by decide +kernel) (by decide +kernel)
theorem fl_X9_7 : Cond.fieldLink RX9 7 "MadeCallsModel" "memory" "[I" ∈ xALL := xALL_of (i := 652) (by decide +kernel) (by decide +kernel)
theorem fl_X9_13 : Cond.fieldLink RX9 13 "MadeCallsModel" "globals" "[I" ∈ xALL := xALL_of (i := 653) (by decide +kernel) (by decide +kernel)
theorem fl_X9_16 : Cond.fieldLink RX9 16 "MadeCallsModel" "arguments" "[I" ∈ xALL := xALL_of (i := 654) (by decide +kernel) (by decide +kernel)
theorem fl_X9_19 : Cond.fieldLink RX9 19 "MadeCallsModel" "accelerated" "[I" ∈ xALL := xALL_of (i := 655) (by decide +kernel) (by decide +kernel)
theorem fl_X9_74 : Cond.fieldLink RX9 74 "MadeCallsModel" "most" "I" ∈ xALL := xALL_of (i := 656) (by decide +kernel) (by decide +kernel)
theorem fl_X9_80 : Cond.fieldLink RX9 80 "MadeCallsModel" "kept" "I" ∈ xALL := xALL_of (i := 657) (by decide +kernel) (by decide +kernel)
theorem fl_X9_22 : Cond.fieldLink RX9 22 "MadeCallsModel" "keptAddress" "[I" ∈ xALL := xALL_of (i := 658) (by decide +kernel) (by decide +kernel)
theorem fl_X9_25 : Cond.fieldLink RX9 25 "MadeCallsModel" "keptEnd" "[I" ∈ xALL := xALL_of (i := 659) (by decide +kernel) (by decide +kernel)
theorem fl_X9_28 : Cond.fieldLink RX9 28 "MadeCallsModel" "keptNumber" "[I" ∈ xALL := xALL_of (i := 660) (by decide +kernel) (by decide +kernel)
theorem fl_X9_31 : Cond.fieldLink RX9 31 "MadeCallsModel" "placeTold" "I" ∈ xALL := xALL_of (i := 661) (by decide +kernel) (by decide +kernel)
theorem fl_X9_149 : Cond.fieldLink RX9 149 "MadeCallsModel" "made" "I" ∈ xALL := xALL_of (i := 662) (by decide +kernel) (by decide +kernel)
theorem fl_X9_83 : Cond.fieldLink RX9 83 "MadeCallsModel" "dropped" "I" ∈ xALL := xALL_of (i := 663) (by decide +kernel) (by decide +kernel)
theorem fl_X9_170 : Cond.fieldLink RX9 170 "MadeCallsModel" "stepsEver" "I" ∈ xALL := xALL_of (i := 664) (by decide +kernel) (by decide +kernel)
theorem fl_X9_224 : Cond.fieldLink RX9 224 "MadeCallsModel" "stepsMade" "I" ∈ xALL := xALL_of (i := 665) (by decide +kernel) (by decide +kernel)
theorem fl_X9_193 : Cond.fieldLink RX9 193 "MadeCallsModel" "callsEver" "I" ∈ xALL := xALL_of (i := 666) (by decide +kernel) (by decide +kernel)
theorem fl_X9_196 : Cond.fieldLink RX9 196 "MadeCallsModel" "callsMade" "I" ∈ xALL := xALL_of (i := 667) (by decide +kernel) (by decide +kernel)
theorem fl_X9_233 : Cond.fieldLink RX9 233 "MadeCallsModel" "faults" "I" ∈ xALL := xALL_of (i := 668) (by decide +kernel) (by decide +kernel)
theorem fl_X9_202 : Cond.fieldLink RX9 202 "MadeCallsModel" "caught" "I" ∈ xALL := xALL_of (i := 669) (by decide +kernel) (by decide +kernel)
theorem fl_X9_127 : Cond.fieldLink RX9 127 "MadeCallsModel" "code" "I" ∈ xALL := xALL_of (i := 670) (by decide +kernel) (by decide +kernel)
theorem fl_X9_107 : Cond.fieldLink RX9 107 "MadeCallsModel" "codeFault" "I" ∈ xALL := xALL_of (i := 671) (by decide +kernel) (by decide +kernel)
theorem fl_X9_104 : Cond.fieldLink RX9 104 "MadeCallsModel" "behind" "I" ∈ xALL := xALL_of (i := 672) (by decide +kernel) (by decide +kernel)
theorem fl_X9_35 : Cond.fieldLink RX9 35 "MadeCallsModel" "operand" "[I" ∈ xALL := xALL_of (i := 673) (by decide +kernel) (by decide +kernel)
theorem fl_X9_124 : Cond.fieldLink RX9 124 "MadeCallsModel" "operands" "I" ∈ xALL := xALL_of (i := 674) (by decide +kernel) (by decide +kernel)
theorem fl_X9_110 : Cond.fieldLink RX9 110 "MadeCallsModel" "localMany" "I" ∈ xALL := xALL_of (i := 675) (by decide +kernel) (by decide +kernel)
theorem fl_X9_38 : Cond.fieldLink RX9 38 "MadeCallsModel" "offsets" "[I" ∈ xALL := xALL_of (i := 676) (by decide +kernel) (by decide +kernel)
theorem fl_X9_41 : Cond.fieldLink RX9 41 "MadeCallsModel" "targets" "[I" ∈ xALL := xALL_of (i := 677) (by decide +kernel) (by decide +kernel)
theorem fl_X9_133 : Cond.fieldLink RX9 133 "MadeCallsModel" "many" "I" ∈ xALL := xALL_of (i := 678) (by decide +kernel) (by decide +kernel)
theorem fl_X9_164 : Cond.fieldLink RX9 164 "MadeCallsModel" "steps" "I" ∈ xALL := xALL_of (i := 679) (by decide +kernel) (by decide +kernel)
theorem fl_X9_161 : Cond.fieldLink RX9 161 "MadeCallsModel" "depth" "I" ∈ xALL := xALL_of (i := 680) (by decide +kernel) (by decide +kernel)
theorem fl_X9_189 : Cond.fieldLink RX9 189 "MadeCallsModel" "byMade" "Z" ∈ xALL := xALL_of (i := 681) (by decide +kernel) (by decide +kernel)
theorem fl_X9_44 : Cond.fieldLink RX9 44 "MadeCallsModel" "address" "[I" ∈ xALL := xALL_of (i := 682) (by decide +kernel) (by decide +kernel)
theorem fl_X9_47 : Cond.fieldLink RX9 47 "MadeCallsModel" "at" "[I" ∈ xALL := xALL_of (i := 683) (by decide +kernel) (by decide +kernel)
theorem fl_X9_50 : Cond.fieldLink RX9 50 "MadeCallsModel" "locals" "[I" ∈ xALL := xALL_of (i := 684) (by decide +kernel) (by decide +kernel)
theorem fl_X9_53 : Cond.fieldLink RX9 53 "MadeCallsModel" "catches" "[I" ∈ xALL := xALL_of (i := 685) (by decide +kernel) (by decide +kernel)
theorem fl_X9_56 : Cond.fieldLink RX9 56 "MadeCallsModel" "cell" "[I" ∈ xALL := xALL_of (i := 686) (by decide +kernel) (by decide +kernel)
theorem fl_X9_59 : Cond.fieldLink RX9 59 "MadeCallsModel" "number" "[I" ∈ xALL := xALL_of (i := 687) (by decide +kernel) (by decide +kernel)
theorem fl_X9_62 : Cond.fieldLink RX9 62 "MadeCallsModel" "local" "[I" ∈ xALL := xALL_of (i := 688) (by decide +kernel) (by decide +kernel)
theorem fl_X9_65 : Cond.fieldLink RX9 65 "MadeCallsModel" "given" "[I" ∈ xALL := xALL_of (i := 689) (by decide +kernel) (by decide +kernel)
theorem fl_X9_173 : Cond.fieldLink RX9 173 "MadeCallsModel" "givenMany" "I" ∈ xALL := xALL_of (i := 690) (by decide +kernel) (by decide +kernel)
theorem fl_X9_152 : Cond.fieldLink RX9 152 "MadeCallsModel" "fault" "I" ∈ xALL := xALL_of (i := 691) (by decide +kernel) (by decide +kernel)
theorem fl_X9_68 : Cond.fieldLink RX9 68 "MadeCallsModel" "faultAddress" "I" ∈ xALL := xALL_of (i := 692) (by decide +kernel) (by decide +kernel)
theorem fl_X9_71 : Cond.fieldLink RX9 71 "MadeCallsModel" "faultOffset" "I" ∈ xALL := xALL_of (i := 693) (by decide +kernel) (by decide +kernel)
theorem fl_X9_199 : Cond.fieldLink RX9 199 "MadeCallsModel" "faultNumber" "I" ∈ xALL := xALL_of (i := 694) (by decide +kernel) (by decide +kernel)
theorem fl_X9_186 : Cond.fieldLink RX9 186 "MadeCallsModel" "result" "I" ∈ xALL := xALL_of (i := 695) (by decide +kernel) (by decide +kernel)
theorem fl_X9_155 : Cond.fieldLink RX9 155 "MadeCallsModel" "here" "I" ∈ xALL := xALL_of (i := 696) (by decide +kernel) (by decide +kernel)
theorem fl_X9_158 : Cond.fieldLink RX9 158 "MadeCallsModel" "hereOffset" "I" ∈ xALL := xALL_of (i := 697) (by decide +kernel) (by decide +kernel)
theorem ml_L_38 : Cond.methodLink RL 38 yX9_thrown ∈ xALL := xALL_of (i := 793) (by decide +kernel) (by decide +kernel)
theorem im_X9_thrown : Cond.instanceMethod yX9_thrown ∈ xALL := xALL_of (i := 794) (by decide +kernel) (by decide +kernel)
theorem se_X9_thrown : Cond.selects RX9 yX9_thrown yX9_thrown ∈ xALL := xALL_of (i := 795) (by decide +kernel) (by decide +kernel)
theorem cd_X9_thrown : Cond.code yX9_thrown cX9_thrown 1 (some .int) ∈ xALL := xALL_of (i := 796) (by decide +kernel) (by decide +kernel)
theorem ml_L_37 : Cond.methodLink RL 37 yX9_poke ∈ xALL := xALL_of (i := 797) (by decide +kernel) (by decide +kernel)
theorem im_X9_poke : Cond.instanceMethod yX9_poke ∈ xALL := xALL_of (i := 798) (by decide +kernel) (by decide +kernel)
theorem se_X9_poke : Cond.selects RX9 yX9_poke yX9_poke ∈ xALL := xALL_of (i := 799) (by decide +kernel) (by decide +kernel)
theorem cd_X9_poke : Cond.code yX9_poke cX9_poke 5 (some .int) ∈ xALL := xALL_of (i := 800) (by decide +kernel) (by decide +kernel)
theorem ml_X9_94 : Cond.methodLink RX9 94 yX9_isPlace ∈ xALL := xALL_of (i := 801) (by decide +kernel) (by decide +kernel)
theorem im_X9_isPlace : Cond.instanceMethod yX9_isPlace ∈ xALL := xALL_of (i := 803) (by decide +kernel) (by decide +kernel)
theorem cd_X9_isPlace : Cond.code yX9_isPlace cX9_isPlace 2 (some .boolean) ∈ xALL := xALL_of (i := 804) (by decide +kernel) (by decide +kernel)
theorem ml_X9_98 : Cond.methodLink RX9 98 yX9_write ∈ xALL := xALL_of (i := 805) (by decide +kernel) (by decide +kernel)
theorem im_X9_write : Cond.instanceMethod yX9_write ∈ xALL := xALL_of (i := 807) (by decide +kernel) (by decide +kernel)
theorem cd_X9_write : Cond.code yX9_write cX9_write 4 (some .int) ∈ xALL := xALL_of (i := 808) (by decide +kernel) (by decide +kernel)
theorem ml_X9_90 : Cond.methodLink RX9 90 yX9_dropPage ∈ xALL := xALL_of (i := 809) (by decide +kernel) (by decide +kernel)
theorem im_X9_dropPage : Cond.instanceMethod yX9_dropPage ∈ xALL := xALL_of (i := 811) (by decide +kernel) (by decide +kernel)
theorem cd_X9_dropPage : Cond.code yX9_dropPage cX9_dropPage 4 (some .int) ∈ xALL := xALL_of (i := 812) (by decide +kernel) (by decide +kernel)
theorem ml_X9_86 : Cond.methodLink RX9 86 yX9_away ∈ xALL := xALL_of (i := 813) (by decide +kernel) (by decide +kernel)
theorem im_X9_away : Cond.instanceMethod yX9_away ∈ xALL := xALL_of (i := 815) (by decide +kernel) (by decide +kernel)
theorem cd_X9_away : Cond.code yX9_away cX9_away 3 none ∈ xALL := xALL_of (i := 816) (by decide +kernel) (by decide +kernel)
theorem ml_L_48 : Cond.methodLink RL 48 yX9_feed ∈ xALL := xALL_of (i := 817) (by decide +kernel) (by decide +kernel)
theorem im_X9_feed : Cond.instanceMethod yX9_feed ∈ xALL := xALL_of (i := 818) (by decide +kernel) (by decide +kernel)
theorem se_X9_feed : Cond.selects RX9 yX9_feed yX9_feed ∈ xALL := xALL_of (i := 819) (by decide +kernel) (by decide +kernel)
theorem cd_X9_feed : Cond.code yX9_feed cX9_feed 7 (some .int) ∈ xALL := xALL_of (i := 820) (by decide +kernel) (by decide +kernel)
theorem ml_L_52 : Cond.methodLink RL 52 yX9_peek ∈ xALL := xALL_of (i := 822) (by decide +kernel) (by decide +kernel)
theorem im_X9_peek : Cond.instanceMethod yX9_peek ∈ xALL := xALL_of (i := 823) (by decide +kernel) (by decide +kernel)
theorem se_X9_peek : Cond.selects RX9 yX9_peek yX9_peek ∈ xALL := xALL_of (i := 824) (by decide +kernel) (by decide +kernel)
theorem cd_X9_peek : Cond.code yX9_peek cX9_peek 2 (some .int) ∈ xALL := xALL_of (i := 825) (by decide +kernel) (by decide +kernel)
theorem ml_L_55 : Cond.methodLink RL 55 yX9_global ∈ xALL := xALL_of (i := 826) (by decide +kernel) (by decide +kernel)
theorem im_X9_global : Cond.instanceMethod yX9_global ∈ xALL := xALL_of (i := 827) (by decide +kernel) (by decide +kernel)
theorem se_X9_global : Cond.selects RX9 yX9_global yX9_global ∈ xALL := xALL_of (i := 828) (by decide +kernel) (by decide +kernel)
theorem cd_X9_global : Cond.code yX9_global cX9_global 4 (some .int) ∈ xALL := xALL_of (i := 829) (by decide +kernel) (by decide +kernel)
theorem ml_L_59 : Cond.methodLink RL 59 yX9_make ∈ xALL := xALL_of (i := 830) (by decide +kernel) (by decide +kernel)
theorem im_X9_make : Cond.instanceMethod yX9_make ∈ xALL := xALL_of (i := 831) (by decide +kernel) (by decide +kernel)
theorem se_X9_make : Cond.selects RX9 yX9_make yX9_make ∈ xALL := xALL_of (i := 832) (by decide +kernel) (by decide +kernel)
theorem cd_X9_make : Cond.code yX9_make cX9_make 3 (some .int) ∈ xALL := xALL_of (i := 833) (by decide +kernel) (by decide +kernel)
theorem ml_X9_140 : Cond.methodLink RX9 140 yX9_isAddress ∈ xALL := xALL_of (i := 834) (by decide +kernel) (by decide +kernel)
theorem ss_X9_isAddress : Cond.static yX9_isAddress ∈ xALL := xALL_of (i := 835) (by decide +kernel) (by decide +kernel)
theorem cd_X9_isAddress : Cond.code yX9_isAddress cX9_isAddress 1 (some .boolean) ∈ xALL := xALL_of (i := 836) (by decide +kernel) (by decide +kernel)
theorem ml_X9_143 : Cond.methodLink RX9 143 yX9_failsAt ∈ xALL := xALL_of (i := 837) (by decide +kernel) (by decide +kernel)
theorem im_X9_failsAt : Cond.instanceMethod yX9_failsAt ∈ xALL := xALL_of (i := 839) (by decide +kernel) (by decide +kernel)
theorem cd_X9_failsAt : Cond.code yX9_failsAt cX9_failsAt 7 (some .int) ∈ xALL := xALL_of (i := 840) (by decide +kernel) (by decide +kernel)
theorem ml_X9_136 : Cond.methodLink RX9 136 yX9_readAt ∈ xALL := xALL_of (i := 841) (by decide +kernel) (by decide +kernel)
theorem im_X9_readAt : Cond.instanceMethod yX9_readAt ∈ xALL := xALL_of (i := 843) (by decide +kernel) (by decide +kernel)
theorem cd_X9_readAt : Cond.code yX9_readAt cX9_readAt 7 none ∈ xALL := xALL_of (i := 844) (by decide +kernel) (by decide +kernel)
theorem ml_X9_113 : Cond.methodLink RX9 113 yX9_nextByte ∈ xALL := xALL_of (i := 845) (by decide +kernel) (by decide +kernel)
theorem im_X9_nextByte : Cond.instanceMethod yX9_nextByte ∈ xALL := xALL_of (i := 847) (by decide +kernel) (by decide +kernel)
theorem cd_X9_nextByte : Cond.code yX9_nextByte cX9_nextByte 1 (some .int) ∈ xALL := xALL_of (i := 848) (by decide +kernel) (by decide +kernel)
theorem ml_X9_120 : Cond.methodLink RX9 120 yX9_bad ∈ xALL := xALL_of (i := 849) (by decide +kernel) (by decide +kernel)
theorem im_X9_bad : Cond.instanceMethod yX9_bad ∈ xALL := xALL_of (i := 851) (by decide +kernel) (by decide +kernel)
theorem cd_X9_bad : Cond.code yX9_bad cX9_bad 2 none ∈ xALL := xALL_of (i := 852) (by decide +kernel) (by decide +kernel)
theorem ml_X9_130 : Cond.methodLink RX9 130 yX9_operandOf ∈ xALL := xALL_of (i := 853) (by decide +kernel) (by decide +kernel)
theorem im_X9_operandOf : Cond.instanceMethod yX9_operandOf ∈ xALL := xALL_of (i := 855) (by decide +kernel) (by decide +kernel)
theorem cd_X9_operandOf : Cond.code yX9_operandOf cX9_operandOf 3 none ∈ xALL := xALL_of (i := 856) (by decide +kernel) (by decide +kernel)
theorem ml_X9_117 : Cond.methodLink RX9 117 yX9_isCell ∈ xALL := xALL_of (i := 857) (by decide +kernel) (by decide +kernel)
theorem im_X9_isCell : Cond.instanceMethod yX9_isCell ∈ xALL := xALL_of (i := 859) (by decide +kernel) (by decide +kernel)
theorem cd_X9_isCell : Cond.code yX9_isCell cX9_isCell 2 (some .boolean) ∈ xALL := xALL_of (i := 860) (by decide +kernel) (by decide +kernel)
theorem ml_X9_146 : Cond.methodLink RX9 146 yX9_keptOf ∈ xALL := xALL_of (i := 861) (by decide +kernel) (by decide +kernel)
theorem im_X9_keptOf : Cond.instanceMethod yX9_keptOf ∈ xALL := xALL_of (i := 863) (by decide +kernel) (by decide +kernel)
theorem cd_X9_keptOf : Cond.code yX9_keptOf cX9_keptOf 3 (some .int) ∈ xALL := xALL_of (i := 864) (by decide +kernel) (by decide +kernel)
theorem ml_L_63 : Cond.methodLink RL 63 yX9_place ∈ xALL := xALL_of (i := 865) (by decide +kernel) (by decide +kernel)
theorem im_X9_place : Cond.instanceMethod yX9_place ∈ xALL := xALL_of (i := 866) (by decide +kernel) (by decide +kernel)
theorem se_X9_place : Cond.selects RX9 yX9_place yX9_place ∈ xALL := xALL_of (i := 867) (by decide +kernel) (by decide +kernel)
theorem cd_X9_place : Cond.code yX9_place cX9_place 1 (some .int) ∈ xALL := xALL_of (i := 868) (by decide +kernel) (by decide +kernel)
theorem ml_L_67 : Cond.methodLink RL 67 yX9_argument ∈ xALL := xALL_of (i := 869) (by decide +kernel) (by decide +kernel)
theorem im_X9_argument : Cond.instanceMethod yX9_argument ∈ xALL := xALL_of (i := 870) (by decide +kernel) (by decide +kernel)
theorem se_X9_argument : Cond.selects RX9 yX9_argument yX9_argument ∈ xALL := xALL_of (i := 871) (by decide +kernel) (by decide +kernel)
theorem cd_X9_argument : Cond.code yX9_argument cX9_argument 3 (some .int) ∈ xALL := xALL_of (i := 872) (by decide +kernel) (by decide +kernel)
theorem ml_L_71 : Cond.methodLink RL 71 yX9_call ∈ xALL := xALL_of (i := 873) (by decide +kernel) (by decide +kernel)
theorem im_X9_call : Cond.instanceMethod yX9_call ∈ xALL := xALL_of (i := 874) (by decide +kernel) (by decide +kernel)
theorem se_X9_call : Cond.selects RX9 yX9_call yX9_call ∈ xALL := xALL_of (i := 875) (by decide +kernel) (by decide +kernel)
theorem cd_X9_call : Cond.code yX9_call cX9_call 3 (some .int) ∈ xALL := xALL_of (i := 876) (by decide +kernel) (by decide +kernel)
theorem ml_X9_239 : Cond.methodLink RX9 239 yX9_goes ∈ xALL := xALL_of (i := 877) (by decide +kernel) (by decide +kernel)
theorem im_X9_goes : Cond.instanceMethod yX9_goes ∈ xALL := xALL_of (i := 879) (by decide +kernel) (by decide +kernel)
theorem cd_X9_goes : Cond.code yX9_goes cX9_goes 5 (some .int) ∈ xALL := xALL_of (i := 880) (by decide +kernel) (by decide +kernel)
theorem ml_X9_215 : Cond.methodLink RX9 215 yX9_go ∈ xALL := xALL_of (i := 881) (by decide +kernel) (by decide +kernel)
theorem im_X9_go : Cond.instanceMethod yX9_go ∈ xALL := xALL_of (i := 883) (by decide +kernel) (by decide +kernel)
theorem cd_X9_go : Cond.code yX9_go cX9_go 5 none ∈ xALL := xALL_of (i := 884) (by decide +kernel) (by decide +kernel)
theorem ml_X9_176 : Cond.methodLink RX9 176 yX9_step ∈ xALL := xALL_of (i := 885) (by decide +kernel) (by decide +kernel)
theorem im_X9_step : Cond.instanceMethod yX9_step ∈ xALL := xALL_of (i := 887) (by decide +kernel) (by decide +kernel)
theorem cd_X9_step : Cond.code yX9_step cX9_step 1 (some .boolean) ∈ xALL := xALL_of (i := 888) (by decide +kernel) (by decide +kernel)
theorem ml_X9_167 : Cond.methodLink RX9 167 yX9_fails ∈ xALL := xALL_of (i := 889) (by decide +kernel) (by decide +kernel)
theorem im_X9_fails : Cond.instanceMethod yX9_fails ∈ xALL := xALL_of (i := 891) (by decide +kernel) (by decide +kernel)
theorem cd_X9_fails : Cond.code yX9_fails cX9_fails 2 none ∈ xALL := xALL_of (i := 892) (by decide +kernel) (by decide +kernel)
theorem ml_X9_180 : Cond.methodLink RX9 180 yX9_builtIn ∈ xALL := xALL_of (i := 893) (by decide +kernel) (by decide +kernel)
theorem im_X9_builtIn : Cond.instanceMethod yX9_builtIn ∈ xALL := xALL_of (i := 895) (by decide +kernel) (by decide +kernel)
theorem cd_X9_builtIn : Cond.code yX9_builtIn cX9_builtIn 4 (some .int) ∈ xALL := xALL_of (i := 896) (by decide +kernel) (by decide +kernel)
theorem ml_X9_183 : Cond.methodLink RX9 183 yX9_becomes ∈ xALL := xALL_of (i := 897) (by decide +kernel) (by decide +kernel)
theorem im_X9_becomes : Cond.instanceMethod yX9_becomes ∈ xALL := xALL_of (i := 899) (by decide +kernel) (by decide +kernel)
theorem cd_X9_becomes : Cond.code yX9_becomes cX9_becomes 3 none ∈ xALL := xALL_of (i := 900) (by decide +kernel) (by decide +kernel)
theorem ml_X9_236 : Cond.methodLink RX9 236 yX9_one ∈ xALL := xALL_of (i := 901) (by decide +kernel) (by decide +kernel)
theorem im_X9_one : Cond.instanceMethod yX9_one ∈ xALL := xALL_of (i := 903) (by decide +kernel) (by decide +kernel)
theorem cd_X9_one : Cond.code yX9_one cX9_one 2 none ∈ xALL := xALL_of (i := 904) (by decide +kernel) (by decide +kernel)
theorem ml_X9_227 : Cond.methodLink RX9 227 yX9_isMade ∈ xALL := xALL_of (i := 905) (by decide +kernel) (by decide +kernel)
theorem im_X9_isMade : Cond.instanceMethod yX9_isMade ∈ xALL := xALL_of (i := 907) (by decide +kernel) (by decide +kernel)
theorem cd_X9_isMade : Cond.code yX9_isMade cX9_isMade 2 (some .boolean) ∈ xALL := xALL_of (i := 908) (by decide +kernel) (by decide +kernel)
theorem ml_X9_230 : Cond.methodLink RX9 230 yX9_doIt ∈ xALL := xALL_of (i := 909) (by decide +kernel) (by decide +kernel)
theorem im_X9_doIt : Cond.instanceMethod yX9_doIt ∈ xALL := xALL_of (i := 911) (by decide +kernel) (by decide +kernel)
theorem cd_X9_doIt : Cond.code yX9_doIt cX9_doIt 4 none ∈ xALL := xALL_of (i := 912) (by decide +kernel) (by decide +kernel)
theorem ml_X9_205 : Cond.methodLink RX9 205 yX9_valueOf ∈ xALL := xALL_of (i := 913) (by decide +kernel) (by decide +kernel)
theorem im_X9_valueOf : Cond.instanceMethod yX9_valueOf ∈ xALL := xALL_of (i := 915) (by decide +kernel) (by decide +kernel)
theorem cd_X9_valueOf : Cond.code yX9_valueOf cX9_valueOf 2 (some .int) ∈ xALL := xALL_of (i := 916) (by decide +kernel) (by decide +kernel)
theorem ml_X9_208 : Cond.methodLink RX9 208 yX9_ends ∈ xALL := xALL_of (i := 917) (by decide +kernel) (by decide +kernel)
theorem im_X9_ends : Cond.instanceMethod yX9_ends ∈ xALL := xALL_of (i := 919) (by decide +kernel) (by decide +kernel)
theorem cd_X9_ends : Cond.code yX9_ends cX9_ends 3 none ∈ xALL := xALL_of (i := 920) (by decide +kernel) (by decide +kernel)
theorem ml_X9_211 : Cond.methodLink RX9 211 yX9_jump ∈ xALL := xALL_of (i := 921) (by decide +kernel) (by decide +kernel)
theorem im_X9_jump : Cond.instanceMethod yX9_jump ∈ xALL := xALL_of (i := 923) (by decide +kernel) (by decide +kernel)
theorem cd_X9_jump : Cond.code yX9_jump cX9_jump 3 none ∈ xALL := xALL_of (i := 924) (by decide +kernel) (by decide +kernel)
theorem ml_X9_218 : Cond.methodLink RX9 218 yX9_throwing ∈ xALL := xALL_of (i := 925) (by decide +kernel) (by decide +kernel)
theorem im_X9_throwing : Cond.instanceMethod yX9_throwing ∈ xALL := xALL_of (i := 927) (by decide +kernel) (by decide +kernel)
theorem cd_X9_throwing : Cond.code yX9_throwing cX9_throwing 2 none ∈ xALL := xALL_of (i := 928) (by decide +kernel) (by decide +kernel)
theorem ml_X9_221 : Cond.methodLink RX9 221 yX9_reckon ∈ xALL := xALL_of (i := 929) (by decide +kernel) (by decide +kernel)
theorem im_X9_reckon : Cond.instanceMethod yX9_reckon ∈ xALL := xALL_of (i := 931) (by decide +kernel) (by decide +kernel)
theorem cd_X9_reckon : Cond.code yX9_reckon cX9_reckon 4 none ∈ xALL := xALL_of (i := 932) (by decide +kernel) (by decide +kernel)
theorem ml_L_75 : Cond.methodLink RL 75 yX9_walk ∈ xALL := xALL_of (i := 933) (by decide +kernel) (by decide +kernel)
theorem im_X9_walk : Cond.instanceMethod yX9_walk ∈ xALL := xALL_of (i := 934) (by decide +kernel) (by decide +kernel)
theorem se_X9_walk : Cond.selects RX9 yX9_walk yX9_walk ∈ xALL := xALL_of (i := 935) (by decide +kernel) (by decide +kernel)
theorem cd_X9_walk : Cond.code yX9_walk cX9_walk 3 (some .int) ∈ xALL := xALL_of (i := 936) (by decide +kernel) (by decide +kernel)
theorem ml_L_79 : Cond.methodLink RL 79 yX9_result ∈ xALL := xALL_of (i := 937) (by decide +kernel) (by decide +kernel)
theorem im_X9_result : Cond.instanceMethod yX9_result ∈ xALL := xALL_of (i := 938) (by decide +kernel) (by decide +kernel)
theorem se_X9_result : Cond.selects RX9 yX9_result yX9_result ∈ xALL := xALL_of (i := 939) (by decide +kernel) (by decide +kernel)
theorem cd_X9_result : Cond.code yX9_result cX9_result 1 (some .int) ∈ xALL := xALL_of (i := 940) (by decide +kernel) (by decide +kernel)
theorem ml_L_83 : Cond.methodLink RL 83 yX9_fault ∈ xALL := xALL_of (i := 941) (by decide +kernel) (by decide +kernel)
theorem im_X9_fault : Cond.instanceMethod yX9_fault ∈ xALL := xALL_of (i := 942) (by decide +kernel) (by decide +kernel)
theorem se_X9_fault : Cond.selects RX9 yX9_fault yX9_fault ∈ xALL := xALL_of (i := 943) (by decide +kernel) (by decide +kernel)
theorem cd_X9_fault : Cond.code yX9_fault cX9_fault 2 (some .int) ∈ xALL := xALL_of (i := 944) (by decide +kernel) (by decide +kernel)
theorem ml_L_87 : Cond.methodLink RL 87 yX9_accelerate ∈ xALL := xALL_of (i := 945) (by decide +kernel) (by decide +kernel)
theorem im_X9_accelerate : Cond.instanceMethod yX9_accelerate ∈ xALL := xALL_of (i := 946) (by decide +kernel) (by decide +kernel)
theorem se_X9_accelerate : Cond.selects RX9 yX9_accelerate yX9_accelerate ∈ xALL := xALL_of (i := 947) (by decide +kernel) (by decide +kernel)
theorem cd_X9_accelerate : Cond.code yX9_accelerate cX9_accelerate 4 (some .int) ∈ xALL := xALL_of (i := 948) (by decide +kernel) (by decide +kernel)
theorem ml_L_91 : Cond.methodLink RL 91 yX9_kept ∈ xALL := xALL_of (i := 949) (by decide +kernel) (by decide +kernel)
theorem im_X9_kept : Cond.instanceMethod yX9_kept ∈ xALL := xALL_of (i := 950) (by decide +kernel) (by decide +kernel)
theorem se_X9_kept : Cond.selects RX9 yX9_kept yX9_kept ∈ xALL := xALL_of (i := 951) (by decide +kernel) (by decide +kernel)
theorem cd_X9_kept : Cond.code yX9_kept cX9_kept 2 (some .int) ∈ xALL := xALL_of (i := 952) (by decide +kernel) (by decide +kernel)
theorem ml_L_95 : Cond.methodLink RL 95 yX9_drop ∈ xALL := xALL_of (i := 953) (by decide +kernel) (by decide +kernel)
theorem im_X9_drop : Cond.instanceMethod yX9_drop ∈ xALL := xALL_of (i := 954) (by decide +kernel) (by decide +kernel)
theorem se_X9_drop : Cond.selects RX9 yX9_drop yX9_drop ∈ xALL := xALL_of (i := 955) (by decide +kernel) (by decide +kernel)
theorem cd_X9_drop : Cond.code yX9_drop cX9_drop 2 (some .int) ∈ xALL := xALL_of (i := 956) (by decide +kernel) (by decide +kernel)
theorem ml_L_99 : Cond.methodLink RL 99 yX9_count ∈ xALL := xALL_of (i := 957) (by decide +kernel) (by decide +kernel)
theorem im_X9_count : Cond.instanceMethod yX9_count ∈ xALL := xALL_of (i := 958) (by decide +kernel) (by decide +kernel)
theorem se_X9_count : Cond.selects RX9 yX9_count yX9_count ∈ xALL := xALL_of (i := 959) (by decide +kernel) (by decide +kernel)
theorem cd_X9_count : Cond.code yX9_count cX9_count 2 (some .int) ∈ xALL := xALL_of (i := 960) (by decide +kernel) (by decide +kernel)
theorem se_X7_dropAt : Cond.selects RX7 yX7_dropAt yX7_dropAt ∈ xALL := xALL_of (i := 0) (by decide +kernel) (by decide +kernel)
theorem se_X2_linkTargets : Cond.selects RX2 yX2_linkTargets yX2_linkTargets ∈ xALL := xALL_of (i := 1) (by decide +kernel) (by decide +kernel)
theorem se_X2_indexOf : Cond.selects RX2 yX2_indexOf yX2_indexOf ∈ xALL := xALL_of (i := 2) (by decide +kernel) (by decide +kernel)
theorem se_X8_refusalOf : Cond.selects RX8 yX8_refusalOf yX8_refusalOf ∈ xALL := xALL_of (i := 3) (by decide +kernel) (by decide +kernel)
theorem se_X6_enter : Cond.selects RX6 yX6_enter yX6_enter ∈ xALL := xALL_of (i := 4) (by decide +kernel) (by decide +kernel)
theorem se_X6_valueOfBuiltIn : Cond.selects RX6 yX6_valueOfBuiltIn yX6_valueOfBuiltIn ∈ xALL := xALL_of (i := 5) (by decide +kernel) (by decide +kernel)
theorem se_X6_spendStep : Cond.selects RX6 yX6_spendStep yX6_spendStep ∈ xALL := xALL_of (i := 6) (by decide +kernel) (by decide +kernel)
theorem se_X6_fail : Cond.selects RX6 yX6_fail yX6_fail ∈ xALL := xALL_of (i := 7) (by decide +kernel) (by decide +kernel)
theorem se_X6_sumOfHanded : Cond.selects RX6 yX6_sumOfHanded yX6_sumOfHanded ∈ xALL := xALL_of (i := 8) (by decide +kernel) (by decide +kernel)
theorem se_X6_greatestOfHanded : Cond.selects RX6 yX6_greatestOfHanded yX6_greatestOfHanded ∈ xALL := xALL_of (i := 9) (by decide +kernel) (by decide +kernel)
theorem se_X6_handedNotZero : Cond.selects RX6 yX6_handedNotZero yX6_handedNotZero ∈ xALL := xALL_of (i := 10) (by decide +kernel) (by decide +kernel)
theorem se_X6_byteAtFirstHanded : Cond.selects RX6 yX6_byteAtFirstHanded yX6_byteAtFirstHanded ∈ xALL := xALL_of (i := 11) (by decide +kernel) (by decide +kernel)
theorem se_X6_give : Cond.selects RX6 yX6_give yX6_give ∈ xALL := xALL_of (i := 12) (by decide +kernel) (by decide +kernel)
theorem se_X6_set : Cond.selects RX6 yX6_set yX6_set ∈ xALL := xALL_of (i := 13) (by decide +kernel) (by decide +kernel)
theorem se_X6_fetch : Cond.selects RX6 yX6_fetch yX6_fetch ∈ xALL := xALL_of (i := 14) (by decide +kernel) (by decide +kernel)
theorem se_X6_carryOut : Cond.selects RX6 yX6_carryOut yX6_carryOut ∈ xALL := xALL_of (i := 15) (by decide +kernel) (by decide +kernel)
theorem se_X6_valueOf : Cond.selects RX6 yX6_valueOf yX6_valueOf ∈ xALL := xALL_of (i := 16) (by decide +kernel) (by decide +kernel)
theorem se_X6_leave : Cond.selects RX6 yX6_leave yX6_leave ∈ xALL := xALL_of (i := 17) (by decide +kernel) (by decide +kernel)
theorem se_X6_load : Cond.selects RX6 yX6_load yX6_load ∈ xALL := xALL_of (i := 18) (by decide +kernel) (by decide +kernel)
theorem se_X6_store : Cond.selects RX6 yX6_store yX6_store ∈ xALL := xALL_of (i := 19) (by decide +kernel) (by decide +kernel)
theorem se_X6_jump : Cond.selects RX6 yX6_jump yX6_jump ∈ xALL := xALL_of (i := 20) (by decide +kernel) (by decide +kernel)
theorem se_X6_handOver : Cond.selects RX6 yX6_handOver yX6_handOver ∈ xALL := xALL_of (i := 21) (by decide +kernel) (by decide +kernel)
theorem se_X6_throwOut : Cond.selects RX6 yX6_throwOut yX6_throwOut ∈ xALL := xALL_of (i := 22) (by decide +kernel) (by decide +kernel)
theorem se_X6_reckon : Cond.selects RX6 yX6_reckon yX6_reckon ∈ xALL := xALL_of (i := 23) (by decide +kernel) (by decide +kernel)
theorem se_X9_isPlace : Cond.selects RX9 yX9_isPlace yX9_isPlace ∈ xALL := xALL_of (i := 25) (by decide +kernel) (by decide +kernel)
theorem se_X9_write : Cond.selects RX9 yX9_write yX9_write ∈ xALL := xALL_of (i := 26) (by decide +kernel) (by decide +kernel)
theorem se_X9_dropPage : Cond.selects RX9 yX9_dropPage yX9_dropPage ∈ xALL := xALL_of (i := 27) (by decide +kernel) (by decide +kernel)
theorem se_X9_away : Cond.selects RX9 yX9_away yX9_away ∈ xALL := xALL_of (i := 28) (by decide +kernel) (by decide +kernel)
theorem se_X9_failsAt : Cond.selects RX9 yX9_failsAt yX9_failsAt ∈ xALL := xALL_of (i := 29) (by decide +kernel) (by decide +kernel)
theorem se_X9_readAt : Cond.selects RX9 yX9_readAt yX9_readAt ∈ xALL := xALL_of (i := 30) (by decide +kernel) (by decide +kernel)
theorem se_X9_nextByte : Cond.selects RX9 yX9_nextByte yX9_nextByte ∈ xALL := xALL_of (i := 31) (by decide +kernel) (by decide +kernel)
theorem se_X9_bad : Cond.selects RX9 yX9_bad yX9_bad ∈ xALL := xALL_of (i := 32) (by decide +kernel) (by decide +kernel)
theorem se_X9_operandOf : Cond.selects RX9 yX9_operandOf yX9_operandOf ∈ xALL := xALL_of (i := 33) (by decide +kernel) (by decide +kernel)
theorem se_X9_isCell : Cond.selects RX9 yX9_isCell yX9_isCell ∈ xALL := xALL_of (i := 34) (by decide +kernel) (by decide +kernel)
theorem se_X9_keptOf : Cond.selects RX9 yX9_keptOf yX9_keptOf ∈ xALL := xALL_of (i := 35) (by decide +kernel) (by decide +kernel)
theorem se_X9_goes : Cond.selects RX9 yX9_goes yX9_goes ∈ xALL := xALL_of (i := 36) (by decide +kernel) (by decide +kernel)
theorem se_X9_go : Cond.selects RX9 yX9_go yX9_go ∈ xALL := xALL_of (i := 37) (by decide +kernel) (by decide +kernel)
theorem se_X9_step : Cond.selects RX9 yX9_step yX9_step ∈ xALL := xALL_of (i := 38) (by decide +kernel) (by decide +kernel)
theorem se_X9_fails : Cond.selects RX9 yX9_fails yX9_fails ∈ xALL := xALL_of (i := 39) (by decide +kernel) (by decide +kernel)
theorem se_X9_builtIn : Cond.selects RX9 yX9_builtIn yX9_builtIn ∈ xALL := xALL_of (i := 40) (by decide +kernel) (by decide +kernel)
theorem se_X9_becomes : Cond.selects RX9 yX9_becomes yX9_becomes ∈ xALL := xALL_of (i := 41) (by decide +kernel) (by decide +kernel)
theorem se_X9_one : Cond.selects RX9 yX9_one yX9_one ∈ xALL := xALL_of (i := 42) (by decide +kernel) (by decide +kernel)
theorem se_X9_isMade : Cond.selects RX9 yX9_isMade yX9_isMade ∈ xALL := xALL_of (i := 43) (by decide +kernel) (by decide +kernel)
theorem se_X9_doIt : Cond.selects RX9 yX9_doIt yX9_doIt ∈ xALL := xALL_of (i := 44) (by decide +kernel) (by decide +kernel)
theorem se_X9_valueOf : Cond.selects RX9 yX9_valueOf yX9_valueOf ∈ xALL := xALL_of (i := 45) (by decide +kernel) (by decide +kernel)
theorem se_X9_ends : Cond.selects RX9 yX9_ends yX9_ends ∈ xALL := xALL_of (i := 46) (by decide +kernel) (by decide +kernel)
theorem se_X9_jump : Cond.selects RX9 yX9_jump yX9_jump ∈ xALL := xALL_of (i := 47) (by decide +kernel) (by decide +kernel)
theorem se_X9_throwing : Cond.selects RX9 yX9_throwing yX9_throwing ∈ xALL := xALL_of (i := 48) (by decide +kernel) (by decide +kernel)
theorem se_X9_reckon : Cond.selects RX9 yX9_reckon yX9_reckon ∈ xALL := xALL_of (i := 49) (by decide +kernel) (by decide +kernel)
set_option maxRecDepth 20000 in
theorem la_X1 : ∀ w ∈ wsX10, w ∈ xALL := xALL_in _ [210, 212, 214, 216, 218, 220, 222, 224, 226] (by decide +kernel) (by decide +kernel)
set_option maxRecDepth 20000 in
theorem la_X2 : ∀ w ∈ wsX20, w ∈ xALL := xALL_in _ [105, 107, 109, 111, 113, 115] (by decide +kernel) (by decide +kernel)
set_option maxRecDepth 20000 in
theorem la_X3 : ∀ w ∈ wsX30, w ∈ xALL := xALL_in _ [144, 146] (by decide +kernel) (by decide +kernel)
set_option maxRecDepth 20000 in
theorem la_X4 : ∀ w ∈ wsX40, w ∈ xALL := xALL_in _ [175, 177, 179, 181, 183] (by decide +kernel) (by decide +kernel)
set_option maxRecDepth 20000 in
theorem la_X6 : ∀ w ∈ wsX60, w ∈ xALL := xALL_in _ [247, 249, 251, 253, 255, 257, 259, 261, 263, 265, 267, 269, 271, 273, 275, 277] (by decide +kernel) (by decide +kernel)
set_option maxRecDepth 20000 in
theorem la_X7 : ∀ w ∈ wsX70, w ∈ xALL := xALL_in _ [124, 126, 128, 130] (by decide +kernel) (by decide +kernel)
set_option maxRecDepth 20000 in
theorem la_X8 : ∀ w ∈ wsX80, w ∈ xALL := xALL_in _ [287, 289, 291, 293, 295, 297, 299] (by decide +kernel) (by decide +kernel)
set_option maxRecDepth 20000 in
theorem la_X9 : ∀ w ∈ wsX90, w ∈ xALL := xALL_in _ [698, 700, 702, 704, 706, 708, 710, 712, 714, 716, 718, 720, 722, 724, 726, 728, 730, 732, 734, 736, 738, 740, 742, 744, 746, 748, 750, 752, 754, 756, 758, 760, 762, 764, 766, 768, 770, 772, 774, 776, 778, 780, 782, 784, 786, 788, 790] (by decide +kernel) (by decide +kernel)
set_option maxRecDepth 20000 in
theorem la_Jx00060 : ∀ w ∈ wsJx000600, w ∈ xALL := xALL_in _ [584, 586, 588, 590, 592, 594] (by decide +kernel) (by decide +kernel)
set_option maxRecDepth 20000 in
theorem la_J0 : ∀ w ∈ wsJ00, w ∈ xALL := xALL_in _ [618, 620] (by decide +kernel) (by decide +kernel)
end
section
/-! My own small layer: a world is a family of cells named by two numbers (kind c, index i); `la c i` is its address, `E c i` what it holds. -/
abbrev xEn : Type := Nat → Nat → va_E
def xP (D : va_G) (V : Nat → Nat → Prop) (la : Nat → Nat → Nat) (E : xEn) (H : Heap) : Prop := ∀ c i, V c i → va_at D vwCl (la c i, E c i) H
def xD (V : Nat → Nat → Prop) (la : Nat → Nat → Nat) : Prop := ∀ c i c' i', V c i → V c' i' → la c i = la c' i' → c = c' ∧ i = i'
def xA (V : Nat → Nat → Prop) (la : Nat → Nat → Nat) : Nat → Prop := fun q => ∃ c i, V c i ∧ la c i = q
def xU (E : xEn) (c i : Nat) (e : va_E) : xEn := fun c' i' => if c' = c ∧ i' = i then e else E c' i'
theorem xA_of {V : Nat → Nat → Prop} {la : Nat → Nat → Nat} {c i : Nat} (h : V c i) : xA V la (la c i) := ⟨c, i, h, rfl⟩
theorem xP.set {D : va_G} {V : Nat → Nat → Prop} {la : Nat → Nat → Nat} {E : xEn} {H H1 : Heap} {c i : Nat} {e : va_E} (hP : xP D V la E H) (hD : xD V la) (hV : V c i) (h1 : va_at D vwCl (la c i, e) H1) (oq : ∀ q : Nat, q ≠ la c i → H1[q]? = H[q]?) : xP D V la (xU E c i e) H1 := by
  intro c' i' hV'
  unfold xU
  by_cases h : c' = c ∧ i' = i
  · rw [if_pos h, h.1, h.2]; exact h1
  · rw [if_neg h]
    exact (hP c' i' hV').kept (oq _ (fun z => h (hD c' i' c i hV' hV z)))
theorem xP.kept {D : va_G} {V : Nat → Nat → Prop} {la : Nat → Nat → Nat} {E : xEn} {H H1 : Heap} (hP : xP D V la E H) (hq : ∀ c i, V c i → H1[la c i]? = H[la c i]?) : xP D V la E H1 := fun c i hV => (hP c i hV).kept (hq c i hV)
theorem xP.to {D : va_G} {V : Nat → Nat → Prop} {la : Nat → Nat → Nat} {E E' : xEn} {H : Heap} (hP : xP D V la E H) (h : ∀ c i, V c i → E c i = E' c i) : xP D V la E' H := fun c i hV => by rw [← h c i hV]; exact hP c i hV
section XR
variable {p : Program} {l : Launch} {e : Env} {R : Room} {s : State} {m : MethodId} {args : Array Value} {below : List Frame} {meth : Method} {c : Code} {H : Heap} {locs : List Loc} {cells slots : Nat} {Q : State → Prop}
variable {cc : ByteArray} {pc : Nat} {ls : Array Slot} {rest : List Value} {D : va_G} {V : Nat → Nat → Prop} {la : Nat → Nat → Nat} {E : xEn} {A : Nat → Prop} {tys : List (ClassId × FieldType)} {H0 : Heap}
theorem x_get (hexec : p.tables.exec = Jvm.exec) (hb : c.code = cc) {own C : String} {T : u_T} {N ci index : Nat} {Ts : List Cond} (hts : ∀ w ∈ Ts, w.before args s = true) (hin : ∀ w ∈ u_ws C T N, w ∈ Ts) (hown : s.vm.findClass own = some m.cls) (hK : va_K D vwCl tys s) (hP : xP D V la E H) {c0 i0 : Nat} (hV : V c0 i0) {fs : List Value} (he : E c0 i0 = .inr (ci, fs)) (hc : vwCl[ci]? = some (C, T, N)) (k : Nat) (hk : k < N) (hlink : (Cond.fieldLink own index (T k).1 (T k).2.1 (T k).2.2.1).before args s = true) {v : Value} (hv : fs[k]? = some v) (hdg : decode cc pc = .ok (.getfield index, 3))
    (kk : W p l e R s m args below meth c H locs cells slots Q (F0 m (pc + 3) ls (v :: rest))) : W p l e R s m args below meth c H locs cells slots Q (F0 m pc ls (.ref (la c0 i0) :: rest)) := by
  have h1 : va_P D vwCl [(la c0 i0, E c0 i0)] H := fun j q hq => by
    match j, hq with
    | 0, hq => cases hq; exact hP c0 i0 hV
  exact va_get hexec hb hts hin hown hK h1 0 (by rw [he]; rfl) hc k hk hlink (fun _ h9 => h9) hv hdg kk
theorem x_put (hexec : p.tables.exec = Jvm.exec) (hb : c.code = cc) {own C : String} {T : u_T} {N ci index : Nat} {Ts : List Cond} (hts : ∀ w ∈ Ts, w.before args s = true) (hin : ∀ w ∈ u_ws C T N, w ∈ Ts) (ty0 : Nat → FieldType) (hty : ∀ k, k < N → parseFieldDescriptor (T k).2.2.1 = some (ty0 k)) (hnm : ∀ a, a < N → ∀ b, b < N → a ≠ b → (T a).2.1 ≠ (T b).2.1) (hown : s.vm.findClass own = some m.cls) (hK : va_K D vwCl tys s) (hP : xP D V la E H) (hD : xD V la) (hS : va_S A H0 H locs) {c0 i0 : Nat} (hV : V c0 i0) (hAa : A (la c0 i0)) {fs : List Value} (he : E c0 i0 = .inr (ci, fs)) (hc : vwCl[ci]? = some (C, T, N)) (k : Nat) (hk : k < N) (hlink : (Cond.fieldLink own index (T k).1 (T k).2.1 (T k).2.2.1).before args s = true) (hfin : (T k).2.2.2 = false) {ty : FieldType} {v : Value} (hd : parseFieldDescriptor (T k).2.2.1 = some ty) (hn : narrow ty v = v) (hfit : fits ty v = true) (hl : k < fs.length)
    (hdg : decode cc pc = .ok (.putfield index, 3)) (kk : ∀ (H1 : Heap) (locs1 : List Loc), xP D V la (xU E c0 i0 (.inr (ci, fs.set k v))) H1 → va_S A H0 H1 locs1 → W p l e R s m args below meth c H1 locs1 cells slots Q (F0 m (pc + 3) ls rest)) : W p l e R s m args below meth c H locs cells slots Q (F0 m pc ls (v :: .ref (la c0 i0) :: rest)) := by
  have hap := va_apart (own := own) hts hin ty0 hty hnm hK hc
  have h0 := hP c0 i0 hV
  rw [he] at h0
  obtain ⟨r, h1, cell, q1, q2, q3, q4⟩ := h0
  have hr : r = (C, T, N) := Option.some.inj (h1.symm.trans hc)
  subst hr
  obtain ⟨hSl, hfc, kC, hkC, hkind⟩ := hK.1 ci _ hc
  obtain ⟨cf, kf, fi, f, hi, hsl⟩ := hSl k hk
  have hlay := hts _ (hin _ (u_in_lay hk))
  unfold u_lay at hlay
  rw [if_neg (by rw [hfin]; decide)] at hlay
  have hst := (u_facts hfc hkC (u_lays hts hin hk) hi).1
  have h6 := u_store hfc hkC hkind hlay hi hd hn hfit
  refine W.putK hexec hb (f := f) ⟨hown, hlink, ⟨_, _, _, hi⟩, hst⟩ (by rw [q2]; exact h6) q1 q3 (by rw [hsl]; exact k2_hasslot (q4 k hk)) rfl rfl hdg fun H' e1 e2 e3 => ?_
  rw [hsl] at e1 ⊢
  exact kk H' _ (hP.set hD hV ⟨_, hc, t_OB.to (V := updV (vp_V fs) k v) ⟨_, e1, q2, q3, t_set q4 hap hk v⟩ (fun j _ => vp_updV_set hl v j)⟩ e3) (hS.put e2 e3 hAa)
theorem x_iald (hexec : p.tables.exec = Jvm.exec) (hb : c.code = cc) (hK : va_K D vwCl tys s) (hP : xP D V la E H) (t0 : Nat) {c0 i0 : Nat} (hV : V c0 i0) {cA : ClassId} {n : Nat} {f : Nat → Int32} (he : E c0 i0 = .inl (cA, n, .inl f)) (ht : tys[t0]? = some (cA, .int)) {i : Int32} (hin : vp_in i n) (hdg : decode cc pc = .ok (.iaload, 1))
    (kk : W p l e R s m args below meth c H locs cells slots Q (F0 m (pc + 1) ls (.int (f i.toNatClampNeg) :: rest))) : W p l e R s m args below meth c H locs cells slots Q (F0 m pc ls (.int i :: .ref (la c0 i0) :: rest)) := by
  have h1 : va_P D vwCl [(la c0 i0, E c0 i0)] H := fun j q hq => by
    match j, hq with
    | 0, hq => cases hq; exact hP c0 i0 hV
  exact va_iald hexec hb hK h1 0 t0 (by rw [he]; rfl) ht hin hdg kk
theorem x_alen (hexec : p.tables.exec = Jvm.exec) (hb : c.code = cc) (hK : va_K D vwCl tys s) (hP : xP D V la E H) (t0 : Nat) {c0 i0 : Nat} (hV : V c0 i0) {cA : ClassId} {x : vp_A} (he : E c0 i0 = .inl (cA, x)) {ty : FieldType} (ht : tys[t0]? = some (cA, ty)) {v : Int32} (hv : Int32.ofNat x.1 = v) (hdg : decode cc pc = .ok (.arraylength, 1))
    (kk : W p l e R s m args below meth c H locs cells slots Q (F0 m (pc + 1) ls (.int v :: rest))) : W p l e R s m args below meth c H locs cells slots Q (F0 m pc ls (.ref (la c0 i0) :: rest)) := by
  have h1 : va_P D vwCl [(la c0 i0, E c0 i0)] H := fun j q hq => by
    match j, hq with
    | 0, hq => cases hq; exact hP c0 i0 hV
  exact va_alen hexec hb hK h1 0 t0 (by rw [he]; rfl) ht hv hdg kk
theorem x_aald (hexec : p.tables.exec = Jvm.exec) (hb : c.code = cc) (hK : va_K D vwCl tys s) (hP : xP D V la E H) (t0 : Nat) {c0 i0 : Nat} (hV : V c0 i0) {cA : ClassId} {C : String} {n : Nat} {f : Nat → Option Nat} (he : E c0 i0 = .inl (cA, n, .inr (.inr (.inr (.inr f))))) (ht : tys[t0]? = some (cA, .object C)) {i : Int32} (hin : vp_in i n) (hdg : decode cc pc = .ok (.aaload, 1))
    (kk : W p l e R s m args below meth c H locs cells slots Q (F0 m (pc + 1) ls (va_rf (f i.toNatClampNeg) :: rest))) : W p l e R s m args below meth c H locs cells slots Q (F0 m pc ls (.int i :: .ref (la c0 i0) :: rest)) := by
  have h1 : va_P D vwCl [(la c0 i0, E c0 i0)] H := fun j q hq => by
    match j, hq with
    | 0, hq => cases hq; exact hP c0 i0 hV
  exact va_aldq hexec hb hK h1 0 t0 (by rw [he]; rfl) ht hin hdg kk
theorem x_iast (hexec : p.tables.exec = Jvm.exec) (hb : c.code = cc) (hK : va_K D vwCl tys s) (hP : xP D V la E H) (hD : xD V la) (hS : va_S A H0 H locs) (t0 : Nat) {c0 i0 : Nat} (hV : V c0 i0) (hAa : A (la c0 i0)) {cA : ClassId} {n : Nat} {f : Nat → Int32} (he : E c0 i0 = .inl (cA, n, .inl f)) (ht : tys[t0]? = some (cA, .int)) {i x : Int32} (hin : vp_in i n) (hdg : decode cc pc = .ok (.iastore, 1))
    (kk : ∀ (H1 : Heap) (locs1 : List Loc), xP D V la (xU E c0 i0 (.inl (cA, n, .inl (upd f i.toNatClampNeg x)))) H1 → va_S A H0 H1 locs1 → W p l e R s m args below meth c H1 locs1 cells slots Q (F0 m (pc + 1) ls rest)) : W p l e R s m args below meth c H locs cells slots Q (F0 m pc ls (.int x :: .int i :: .ref (la c0 i0) :: rest)) := by
  have h0 := hP c0 i0 hV
  rw [he] at h0
  refine W.iast hexec hb h0 ((hK.2 t0 _ ht).1 n (fun j => .int (f j))) (fun q => by cases q) (by show ¬ (i < 0 ∨ (arrV _ _ _).slots.size ≤ _); rw [arrV_size]; exact hin) rfl rfl hdg fun H1 e z oq => ?_
  refine kk H1 _ (hP.set hD hV ?_ oq) (hS.put z oq hAa)
  show H1[la c0 i0]? = some (vp_cell _ _)
  rw [e]
  rw [vp_cell_i, vp_cell_i, arrV_store]
  congr 2
  funext q
  by_cases hq : q = i.toNatClampNeg
  · subst hq
    simp [updV, upd]
  · simp [updV, upd, hq]
theorem x_aast (hexec : p.tables.exec = Jvm.exec) (hb : c.code = cc) (hK : va_K D vwCl tys s) (hP : xP D V la E H) (hD : xD V la) (hS : va_S A H0 H locs) (t0 ci : Nat) {c0 i0 c1 i1 : Nat} (hV : V c0 i0) (hAa : A (la c0 i0)) (hV1 : V c1 i1) {cA : ClassId} {r : vw_C} {n : Nat} {vs : List Value} {f : Nat → Option Nat} (he : E c0 i0 = .inl (cA, n, .inr (.inr (.inr (.inr f))))) (ht : tys[t0]? = some (cA, .object r.1)) (hv : E c1 i1 = .inr (ci, vs)) (hc : vwCl[ci]? = some r) {i : Int32} (hin : vp_in i n) (hdg : decode cc pc = .ok (.aastore, 1))
    (kk : ∀ (H1 : Heap) (locs1 : List Loc), xP D V la (xU E c0 i0 (.inl (cA, n, .inr (.inr (.inr (.inr (va_up f i.toNatClampNeg (some (la c1 i1)))))))))  H1 → va_S A H0 H1 locs1 → W p l e R s m args below meth c H1 locs1 cells slots Q (F0 m (pc + 1) ls rest)) : W p l e R s m args below meth c H locs cells slots Q (F0 m pc ls (.ref (la c1 i1) :: .int i :: .ref (la c0 i0) :: rest)) := by
  have hlt : i.toNatClampNeg < n := Nat.not_le.mp fun q => hin (Or.inr q)
  have hz : ¬ i < 0 := fun q => hin (Or.inl q)
  have h0 := hP c0 i0 hV
  rw [he] at h0
  have h9 := hP c1 i1 hV1
  rw [hv] at h9
  obtain ⟨r', hr', cellV, g1, g2, g3, -⟩ := h9
  have hcls := (hK.1 ci r hc).2
  obtain ⟨kA, comp, k1, k2, k3, -⟩ := (hK.2 t0 _ ht).2
  have hcomp : comp = D.1 ci := Option.some.inj (k3.symm.trans hcls.1)
  subst hcomp
  obtain ⟨kC, hkC, -⟩ := hcls.2
  refine W.aast hexec hb h0 (fun q h => by cases h) (fun h => by cases h) k1 k2 rfl hkC ⟨hz, by show _ < (arrV _ _ _).slots.size; rw [arrV_size]; exact hlt⟩ g1 (fun q h => by rw [g3] at h; cases h) (by rw [g2]; exact hkC) (by rw [g2]; exact va_assign hcls) rfl rfl hdg fun H1 e z oq => ?_
  refine kk H1 _ (hP.set hD hV ?_ oq) (hS.put z oq hAa)
  show H1[la c0 i0]? = some (vp_cell _ _)
  rw [e]
  rw [vp_cell_q, vp_cell_q, arrV_store]
  congr 2
  funext q
  by_cases hq : q = i.toNatClampNeg
  · subst hq
    simp [updV, va_up, va_rf]
  · simp [updV, va_up, hq]
end XR
theorem x_recv {s : State} {H : Heap} {D : va_G} {V : Nat → Nat → Prop} {la : Nat → Nat → Nat} {E : xEn} {c0 i0 ci : Nat} {q : vw_C} {fs : List Value} {tys : List (ClassId × FieldType)} (hK : va_K D vwCl tys s) (hP : xP D V la E H) (hV : V c0 i0) (hc : vwCl[ci]? = some q) (he : E c0 i0 = .inr (ci, fs)) : ∃ cell : Cell, H[la c0 i0]? = some cell ∧ cell.vm.isStatics = false ∧ s.vm.findClass q.1 = some cell.cls := by
  have h1 : va_P D vwCl [(la c0 i0, E c0 i0)] H := fun j q hq => by
    match j, hq with
    | 0, hq => cases hq; exact hP c0 i0 hV
  exact va_recv hK h1 hc (q0 := 0) (by rw [he]; rfl)
end
section
/-! A state of a world: the whole numbers that its cells hold (kind, index, place), and the references that may change (as numbers). -/
abbrev xSt : Type := (Nat → Nat → Nat → Int32) × (Nat → Nat → Nat)
abbrev xEf : Type := (Nat → Int32) → (Nat → Nat → Nat) → Nat → Nat → va_E
def HW (D : va_G) (V : Nat → Nat → Prop) (la : Nat → Nat → Nat) (Ef : xEf) (st : xSt) (H : Heap) : Prop := xP D V la (fun c i => Ef (st.1 c i) st.2 c i) H
def pI (st : xSt) (c i k : Nat) (v : Int32) : xSt := (fun c' i' => if c' = c ∧ i' = i then upd (st.1 c i) k v else st.1 c' i', st.2)
def pQ (st : xSt) (a k v : Nat) : xSt := (st.1, fun a' k' => if a' = a ∧ k' = k then v else st.2 a' k')
def nm {α β : Type} (e : α) (k : α → β) : β := k e
theorem nm_of {α β : Type} {e x : α} {k : α → β} {o : β} (h : nm e k = o) (hx : x = e) : k x = o := by subst hx; exact h
theorem nm_gen {α β : Type} {P : α → Prop} {e : α} {k : α → β} {o : β} (hP : P e) (h : nm e k = o) : ∃ x, P x ∧ k x = o := ⟨e, hP, h⟩
theorem ck_of {α : Type} {c : Prop} {dc : Decidable c} {k : Option α} {r : α} (h : (if c then none else k) = some r) : ¬ c ∧ k = some r := by
  by_cases hc : c
  · rw [if_pos hc] at h; cases h
  · rw [if_neg hc] at h; exact ⟨hc, h⟩
theorem bd_of {α β : Type} {a : Option α} {f : α → Option β} {r : β} (h : Option.bind a f = some r) : ∃ x, a = some x ∧ f x = some r := Option.bind_eq_some_iff.mp h
def xTys (cyI cyF cyM : ClassId) : List (ClassId × FieldType) := [(cyI, .int), (cyF, .object "MadeCalls$Frame"), (cyM, .object "MadeCalls$Made")]
def xForm (j : Nat) : Int32 := ([1, 18, 274, 274, 274, 274, 274, 18, 17, 3, 785, 785, 1042, 1, 3, 0] : List Int32).getD j 0
/-- what stays the same during a method: names apart, the tables, the nest's links, the one static array -/
def xStat (D : va_G) (V : Nat → Nat → Prop) (la : Nat → Nat → Nat) (cyI cyF cyM : ClassId) (t0 : Nat) (U : State) (H : Heap) : Prop :=
  xD V la ∧ va_K D vwCl (xTys cyI cyF cyM) U ∧ va_Nw (.methodLinkNest RX3 25 yX8_isPlace RX8) U ∧ va_Nw (.methodLinkNest RX6 145 yX8_isPlace RX8) U ∧ va_Z RX0 "FORMS" "[I" (.ref t0) (xA V la) U H ∧ va_T .int t0 16 (fun j => .int (xForm j)) (xA V la) U H
def xPre (D : va_G) (V : Nat → Nat → Prop) (la : Nat → Nat → Nat) (Ef : xEf) (cyI cyF cyM : ClassId) (t0 : Nat) (st : xSt) (U : State) : Prop := HW D V la Ef st U.heap ∧ xStat D V la cyI cyF cyM t0 U U.heap
def xQc (D : va_G) (V : Nat → Nat → Prop) (la : Nat → Nat → Nat) (Ef : xEf) (res : Option Value) (st' : xSt) : Array Value → State → Outcome → State → Prop := fun _ s0 o t => o = .returned res ∧ HW D V la Ef st' t.heap ∧ va_F (xA V la) s0 t
def MetW (D : va_G) (V : Nat → Nat → Prop) (la : Nat → Nat → Nat) (Ef : xEf) (cyI cyF cyM : ClassId) (t0 : Nat) (l : Launch) (y : MethodName) (ws : List Cond) (rm : Room) (av : List Value) (res : Option Value) (st st' : xSt) : Prop :=
  Met l y ws rm (va_Pc av (xPre D V la Ef cyI cyF cyM t0 st)) (xQc D V la Ef res st') 0 0 (xA V la)
abbrev xCx (D : va_G) (V : Nat → Nat → Prop) (la : Nat → Nat → Nat) (cyI cyF cyM : ClassId) (t0 : Nat) (p : Program) (m : MethodId) (c : Code) (cc : ByteArray) (nL : Nat) (s : State) (args : Array Value) (own : String) : Prop :=
  CallFix p m c cc nL s args xALL own ∧ xStat D V la cyI cyF cyM t0 s s.heap
theorem xStat.moved {D : va_G} {V : Nat → Nat → Prop} {la : Nat → Nat → Nat} {cyI cyF cyM : ClassId} {t0 : Nat} {s U : State} {H H1 : Heap} (h : xStat D V la cyI cyF cyM t0 s H) (hW : s.WarmedH U.vm) (hq : ∀ a : Nat, a < H.size → ¬ xA V la a → H1[a]? = H[a]?) : xStat D V la cyI cyF cyM t0 U H1 := by
  obtain ⟨h1, h2, h3, h4, h5, h6⟩ := h
  exact ⟨h1, va_K.moved hW.alike h2, va_Nw.warmM hW h3, va_Nw.warmM hW h4, (va_Z.moved hW.alike h5).kept hq, (va_T.moved hW.alike h6).kept hq⟩
theorem xStat.same {D : va_G} {V : Nat → Nat → Prop} {la : Nat → Nat → Nat} {cyI cyF cyM : ClassId} {t0 : Nat} {s U : State} {H : Heap} (h : xStat D V la cyI cyF cyM t0 s H) (hv : s.vm = U.vm) : xStat D V la cyI cyF cyM t0 U H := by
  obtain ⟨h1, h2, h3, h4, h5, h6⟩ := h
  have ha : s.vm.Alike U.vm := by rw [hv]; exact Vm.Alike.refl _
  exact ⟨h1, va_K.moved ha h2, va_Nw.same rfl hv h3, va_Nw.same rfl hv h4, va_Z.moved ha h5, va_T.moved ha h6⟩
theorem xPre.blind {D : va_G} {V : Nat → Nat → Prop} {la : Nat → Nat → Nat} {Ef : xEf} {cyI cyF cyM : ClassId} {t0 : Nat} {st : xSt} {av : List Value} : FrameBlind (va_Pc av (xPre D V la Ef cyI cyF cyM t0 st)) := by
  intro a U g mk q
  exact ⟨q.1, q.2.1, xStat.same (s := U) (U := U.calling g mk a) q.2.2 rfl⟩
theorem HW.put {D : va_G} {V : Nat → Nat → Prop} {la : Nat → Nat → Nat} {Ef : xEf} {st : xSt} {H : Heap} {c i k : Nat} {v : Int32} {e : va_E} (h : xP D V la (xU (fun c i => Ef (st.1 c i) st.2 c i) c i e) H) (he : Ef (upd (st.1 c i) k v) st.2 c i = e) : HW D V la Ef (pI st c i k v) H := by
  refine h.to (fun c' i' _ => ?_)
  unfold xU pI
  by_cases hc : c' = c ∧ i' = i
  · rw [if_pos hc, hc.1, hc.2]
    simp only [and_self, if_true]
    exact he.symm
  · rw [if_neg hc]
    simp only [if_neg hc]
section XW
variable {p : Program} {l : Launch} {e : Env} {R : Room} {s : State} {m : MethodId} {args : Array Value} {below : List Frame} {meth : Method} {c : Code} {H : Heap} {locs : List Loc} {cells slots : Nat} {Q : State → Prop}
variable {cc : ByteArray} {nL pc : Nat} {ls : Array Slot} {rest : List Value} {D : va_G} {V : Nat → Nat → Prop} {la : Nat → Nat → Nat} {Ef : xEf} {cyI cyF cyM : ClassId} {t0 : Nat} {own : String} {st st' : xSt}
theorem MetW.intro {y : MethodName} {ret : Option FieldType} {rm : Room} {av : List Value} {res : Option Value} (hy : plainName y.cls = true) (hl : (lg_sl av).length ≤ nL) (hown : y.cls = own)
    (body : ∀ (p : Program) (e : Env) (s : State) (m : MethodId) (below : List Frame) (meth : Method) (c : Code), xCx D V la cyI cyF cyM t0 p m c cc nL s av.toArray own → meth.sig.returnType = ret → meth.locks = false → HW D V la Ef st s.heap → ∀ ls : Array Slot, lv_has ls nL (lv_args 0 av) →
      W p l e rm s m av.toArray below meth c s.heap [] 0 0 (MQ below (xQc D V la Ef res st') av.toArray s 0 0 (xA V la)) (F0 m 0 ls [])) : MetW D V la Ef cyI cyF cyM t0 l y (Cond.code y cc nL ret :: xALL) rm av res st st' := by
  refine Met.ofW (cc := cc) (maxL := nL) (ret := ret) hy rfl ?_
  intro p e s m args below meth c s₁ B hml hv
  obtain ⟨rfl, hP, hZ⟩ := hv
  have hts := atoms_spec (ws := Cond.code y cc nL ret :: xALL) B.pre
  have hfc : s.vm.findClass own = some m.cls := by rw [← hown]; exact findClass_of_methodNamed B.named
  have hl2 := lv_entry av (n := nL) hl
  rw [lg_entry_eq]
  exact body p e s m below meth c ⟨⟨B.exec, B.bytes, hml, hfc, fun w hw => hts w (List.mem_cons_of_mem _ hw)⟩, hZ⟩ B.returns B.notSynchronized hP _ hl2
theorem w_get (X : xCx D V la cyI cyF cyM t0 p m c cc nL s args own) (hP : HW D V la Ef st H) {c0 i0 : Nat} (hV : V c0 i0) {ci : Nat} {fs : List Value} (he : Ef (st.1 c0 i0) st.2 c0 i0 = .inr (ci, fs)) {C : String} {T : u_T} {N : Nat} (hc : vwCl[ci]? = some (C, T, N)) (hin : ∀ w ∈ u_ws C T N, w ∈ xALL) (k : Nat) (hk : k < N) {index : Nat} (hlink : Cond.fieldLink own index (T k).1 (T k).2.1 (T k).2.2.1 ∈ xALL) {v : Value} (hv : fs[k]? = some v) (hdg : decode cc pc = .ok (.getfield index, 3))
    (kk : W p l e R s m args below meth c H locs cells slots Q (F0 m (pc + 3) ls (v :: rest))) : W p l e R s m args below meth c H locs cells slots Q (F0 m pc ls (.ref (la c0 i0) :: rest)) :=
  x_get (E := fun c i => Ef (st.1 c i) st.2 c i) X.1.1 X.1.2.1 X.1.2.2.2.2 hin X.1.2.2.2.1 X.2.2.1 hP hV he hc k hk (X.1.2.2.2.2 _ hlink) hv hdg kk
theorem w_putI (X : xCx D V la cyI cyF cyM t0 p m c cc nL s args own) (hP : HW D V la Ef st H) (hS : va_S (xA V la) s.heap H locs) {c0 i0 : Nat} (hV : V c0 i0) {ci : Nat} {fs : List Value} (he : Ef (st.1 c0 i0) st.2 c0 i0 = .inr (ci, fs)) {C : String} {T : u_T} {N : Nat} (hc : vwCl[ci]? = some (C, T, N)) (hin : ∀ w ∈ u_ws C T N, w ∈ xALL) (ty0 : Nat → FieldType) (hty : ∀ k, k < N → parseFieldDescriptor (T k).2.2.1 = some (ty0 k)) (hnm : ∀ a, a < N → ∀ b, b < N → a ≠ b → (T a).2.1 ≠ (T b).2.1) (k : Nat) (hk : k < N) (hfin : (T k).2.2.2 = false) {ty : FieldType} {v : Int32} (hd : parseFieldDescriptor (T k).2.2.1 = some ty) (hn : narrow ty (.int v) = .int v) (hfit : fits ty (.int v) = true) (hl : k < fs.length) (hset : Ef (upd (st.1 c0 i0) k v) st.2 c0 i0 = .inr (ci, fs.set k (.int v))) {index : Nat} (hlink : Cond.fieldLink own index (T k).1 (T k).2.1 (T k).2.2.1 ∈ xALL) (hdg : decode cc pc = .ok (.putfield index, 3))
    (kk : ∀ (H1 : Heap) (locs1 : List Loc), HW D V la Ef (pI st c0 i0 k v) H1 → va_S (xA V la) s.heap H1 locs1 → W p l e R s m args below meth c H1 locs1 cells slots Q (F0 m (pc + 3) ls rest)) : W p l e R s m args below meth c H locs cells slots Q (F0 m pc ls (.int v :: .ref (la c0 i0) :: rest)) :=
  x_put (E := fun c i => Ef (st.1 c i) st.2 c i) X.1.1 X.1.2.1 X.1.2.2.2.2 hin ty0 hty hnm X.1.2.2.2.1 X.2.2.1 hP X.2.1 hS hV (xA_of hV) he hc k hk (X.1.2.2.2.2 _ hlink) hfin hd hn hfit hl hdg (fun H1 locs1 h hs => kk H1 locs1 (HW.put h hset) hs)
theorem w_iald (X : xCx D V la cyI cyF cyM t0 p m c cc nL s args own) (hP : HW D V la Ef st H) {c0 i0 : Nat} (hV : V c0 i0) {n : Nat} (he : Ef (st.1 c0 i0) st.2 c0 i0 = .inl (cyI, n, .inl (st.1 c0 i0))) {i : Int32} (hin : ¬ (i < 0 ∨ n ≤ i.toNatClampNeg)) (hdg : decode cc pc = .ok (.iaload, 1))
    (kk : W p l e R s m args below meth c H locs cells slots Q (F0 m (pc + 1) ls (.int (st.1 c0 i0 i.toNatClampNeg) :: rest))) : W p l e R s m args below meth c H locs cells slots Q (F0 m pc ls (.int i :: .ref (la c0 i0) :: rest)) :=
  x_iald (E := fun c i => Ef (st.1 c i) st.2 c i) X.1.1 X.1.2.1 X.2.2.1 hP 0 hV he rfl hin hdg kk
theorem w_iast (X : xCx D V la cyI cyF cyM t0 p m c cc nL s args own) (hP : HW D V la Ef st H) (hS : va_S (xA V la) s.heap H locs) {c0 i0 : Nat} (hV : V c0 i0) {n : Nat} (he : ∀ g : Nat → Int32, Ef g st.2 c0 i0 = .inl (cyI, n, .inl g)) {i x : Int32} (hin : ¬ (i < 0 ∨ n ≤ i.toNatClampNeg)) (hdg : decode cc pc = .ok (.iastore, 1))
    (kk : ∀ (H1 : Heap) (locs1 : List Loc), HW D V la Ef (pI st c0 i0 i.toNatClampNeg x) H1 → va_S (xA V la) s.heap H1 locs1 → W p l e R s m args below meth c H1 locs1 cells slots Q (F0 m (pc + 1) ls rest)) : W p l e R s m args below meth c H locs cells slots Q (F0 m pc ls (.int x :: .int i :: .ref (la c0 i0) :: rest)) :=
  x_iast (E := fun c i => Ef (st.1 c i) st.2 c i) X.1.1 X.1.2.1 X.2.2.1 hP X.2.1 hS 0 hV (xA_of hV) (he _) rfl hin hdg (fun H1 locs1 h hs => kk H1 locs1 (HW.put h (he _)) hs)
theorem w_top {v v' : Value} (h : v = v') (kk : W p l e R s m args below meth c H locs cells slots Q (F0 m pc ls (v' :: rest))) : W p l e R s m args below meth c H locs cells slots Q (F0 m pc ls (v :: rest)) := by rw [h]; exact kk
theorem w_stk {st0 st1 : List Value} (h : st0 = st1) (kk : W p l e R s m args below meth c H locs cells slots Q (F0 m pc ls st1)) : W p l e R s m args below meth c H locs cells slots Q (F0 m pc ls st0) := by rw [h]; exact kk
theorem w_forms (X : xCx D V la cyI cyF cyM t0 p m c cc nL s args own) (hS : va_S (xA V la) s.heap H locs) {index : Nat} (hlink : Cond.fieldLink own index RX0 "FORMS" "[I" ∈ xALL) (hdg : decode cc pc = .ok (.getstatic index, 3))
    (kk : W p l e R s m args below meth c H locs cells slots Q (F0 m (pc + 3) ls (.ref t0 :: rest))) : W p l e R s m args below meth c H locs cells slots Q (F0 m pc ls rest) :=
  va_gets X.1.1 X.1.2.1 X.2.2.2.2.2.1 hS X.1.2.2.2.1 (X.1.2.2.2.2 _ hlink) (fun _ h => h) hdg kk
theorem w_form (X : xCx D V la cyI cyF cyM t0 p m c cc nL s args own) (hS : va_S (xA V la) s.heap H locs) {i : Int32} (hin : ¬ (i < 0 ∨ 16 ≤ i.toNatClampNeg)) (hdg : decode cc pc = .ok (.iaload, 1))
    (kk : W p l e R s m args below meth c H locs cells slots Q (F0 m (pc + 1) ls (.int (xForm i.toNatClampNeg) :: rest))) : W p l e R s m args below meth c H locs cells slots Q (F0 m pc ls (.int i :: .ref t0 :: rest)) :=
  va_ti X.1.1 X.1.2.1 X.2.2.2.2.2.2 hS hin rfl hdg kk
theorem w_iret {v : Int32} (X : xCx D V la cyI cyF cyM t0 p m c cc nL s args own) (hr : meth.sig.returnType = some .int) (hlk : meth.locks = false) (hP : HW D V la Ef st' H) (hS : va_S (xA V la) s.heap H locs) (hdg : decode cc pc = .ok (.ireturn, 1)) : W p l e R s m args below meth c H locs 0 0 (MQ below (xQc D V la Ef (some (.int v)) st') args s 0 0 (xA V la)) (F0 m pc ls [.int v]) :=
  W.iret X.1.1 X.1.2.1 hr (fun t ht _ => ⟨rfl, by rw [ht]; exact hP, hS.F ht⟩) hS.2.2 hdg hlk
theorem w_zret {v : Int32} (X : xCx D V la cyI cyF cyM t0 p m c cc nL s args own) (hr : meth.sig.returnType = some .boolean) (hlk : meth.locks = false) (hn : v = 0 ∨ v = 1) (hP : HW D V la Ef st' H) (hS : va_S (xA V la) s.heap H locs) (hdg : decode cc pc = .ok (.ireturn, 1)) : W p l e R s m args below meth c H locs 0 0 (MQ below (xQc D V la Ef (some (.int v)) st') args s 0 0 (xA V la)) (F0 m pc ls [.int v]) :=
  W.zret X.1.1 X.1.2.1 hr (by rcases hn with rfl | rfl <;> rfl) (fun t ht _ => ⟨rfl, by rw [ht]; exact hP, hS.F ht⟩) hS.2.2 hdg hlk
theorem w_vret (X : xCx D V la cyI cyF cyM t0 p m c cc nL s args own) (hr : meth.sig.returnType = none) (hlk : meth.locks = false) (hP : HW D V la Ef st' H) (hS : va_S (xA V la) s.heap H locs) (hdg : decode cc pc = .ok (.return_, 1)) : W p l e R s m args below meth c H locs 0 0 (MQ below (xQc D V la Ef none st') args s 0 0 (xA V la)) (F0 m pc ls []) :=
  W.vret X.1.1 X.1.2.1 hr (fun t ht _ => ⟨rfl, by rw [ht]; exact hP, hS.F ht⟩) hS.2.2 hdg hlk
theorem w_aret {v : Value} {n : String} (X : xCx D V la cyI cyF cyM t0 p m c cc nL s args own) (hr : meth.sig.returnType = some (.object n)) (hlk : meth.locks = false) (hv : v = .null ∨ ∃ a, v = .ref a) (hP : HW D V la Ef st' H) (hS : va_S (xA V la) s.heap H locs) (hdg : decode cc pc = .ok (.areturn, 1)) : W p l e R s m args below meth c H locs 0 0 (MQ below (xQc D V la Ef (some v) st') args s 0 0 (xA V la)) (F0 m pc ls [v]) :=
  W.aret X.1.1 X.1.2.1 hr (Or.inl ⟨n, rfl⟩) hv (fun t ht _ => ⟨rfl, by rw [ht]; exact hP, hS.F ht⟩) hS.2.2 hdg hlk
theorem w_call {res : Option Value} {a : Array Value} {st0 : List Value} (hr : va_Run p l e R s m args below meth c H locs cells slots 0 0 (F0 m pc ls st0) rest (xQc D V la Ef res st' a) (xA V la)) (hS : va_S (xA V la) s.heap H locs)
    (kk : ∀ (H1 : Heap) (locs1 : List Loc), HW D V la Ef st' H1 → va_S (xA V la) s.heap H1 locs1 → W p l e R s m args below meth c H1 locs1 cells slots Q (F0 m (pc + 3) ls (res.toList ++ rest))) : W p l e R s m args below meth c H locs cells slots Q (F0 m pc ls st0) := by
  intro T hT X
  obtain ⟨v, st₀, t, T', L, h0, X', hL, e1, e2, ⟨hv, hP', hz, hk⟩, stp⟩ := hr T hT X
  cases hv
  rw [h0] at hz hk
  obtain ⟨t2, a1, b1⟩ := kk T'.heap (locs ++ L) (by rw [e1]; exact hP') ⟨Nat.le_trans hS.1 (by rw [e1]; exact hz), fun q h1 h2 => by rw [e1, hk q (Nat.lt_of_lt_of_le h1 hS.1) h2]; exact hS.2.1 q h1 h2, fun q hq => (List.mem_append.mp hq).elim (hS.2.2 q) (hL q)⟩ T' rfl X'
  exact ⟨t2, stp t2 a1, b1⟩
def xKv (y : MethodName) (bytes : ByteArray) (maxL : Nat) (ret : Option FieldType) (C : String) (n : Nat) : Prop := Cond.code y bytes maxL ret ∈ xALL ∧ Cond.instanceMethod y ∈ xALL ∧ Cond.selects C y y ∈ xALL ∧ Cond.initialized C ∈ xALL ∧ (y.cls = C ∧ y.cls ≠ "java/lang/invoke/MethodHandle" ∧ y.cls ≠ "java/lang/invoke/VarHandle" ∧ (parseMethodDescriptor y.desc).map (fun d => d.parameters.length) = some n)
def xKs (y : MethodName) (bytes : ByteArray) (maxL : Nat) (ret : Option FieldType) (C : String) (n : Nat) : Prop := Cond.code y bytes maxL ret ∈ xALL ∧ Cond.static y ∈ xALL ∧ Cond.initialized C ∈ xALL ∧ (y.cls = C ∧ y.cls ≠ "java/lang/invoke/MethodHandle" ∧ y.cls ≠ "java/lang/invoke/VarHandle" ∧ (parseMethodDescriptor y.desc).map (fun d => d.parameters.length) = some n)
theorem w_callV {y : MethodName} {bytes : ByteArray} {maxL n index b : Nat} {ret : Option FieldType} {C : String} {rm : Room} {As : List Value} {res : Option Value} (X : xCx D V la cyI cyF cyM t0 p m c cc nL s args own) (hM : MetW D V la Ef cyI cyF cyM t0 l y (Cond.code y bytes maxL ret :: xALL) rm (.ref b :: As) res st st') (hP : HW D V la Ef st H) (hS : va_S (xA V la) s.heap H locs) (K : xKv y bytes maxL ret C n) (hlink : Cond.methodLink own index y ∈ xALL) (hrc : rm.cells = 0) (hrs : rm.slots = 0) (hR : rm.frames + 1 ≤ R.frames ∧ 8 + (maxL + 11) + rm.locals ≤ R.locals) (hrecv : ∃ cell : Cell, H[b]? = some cell ∧ cell.vm.isStatics = false ∧ s.vm.findClass C = some cell.cls) (hn : As.length = n) (hsz : ls.size = nL) (hW : (rest.map fun v => v.category).sum ≤ 8) (hcs : cells ≤ R.cells ∧ slots ≤ R.slots) (hdg : decode cc pc = .ok (.invokevirtual index, 3))
    (kk : ∀ (H1 : Heap) (locs1 : List Loc), HW D V la Ef st' H1 → va_S (xA V la) s.heap H1 locs1 → W p l e R s m args below meth c H1 locs1 cells slots Q (F0 m (pc + 3) ls (res.toList ++ rest))) : W p l e R s m args below meth c H locs cells slots Q (F0 m pc ls (As.reverse ++ .ref b :: rest)) := by
  obtain ⟨k1, k2, k3, k4, k5, k6⟩ := K
  subst k5
  exact w_call (va_runV X.1 hM ⟨callB_of n X.1.2.2.2.2 (fun w h => ⟨(List.mem_cons.mp h).elim (fun z => z ▸ k1) id, (List.mem_cons.mp h).elim (fun z => xALL_good _ (z ▸ k1)) (xALL_good _)⟩) rfl hrc hrs (X.1.2.2.2.2 _ k4) (X.1.2.2.2.2 _ hlink) k6 hR, X.1.2.2.2.2 _ k2, X.1.2.2.2.2 _ k3⟩
    ⟨xPre.blind, hrecv, fun U hU hWm => ⟨rfl, by rw [hU]; exact hP, by rw [hU]; exact X.2.moved hWm hS.2.1⟩⟩ rfl hn hsz rfl (lv_room hW) hdg hcs) hS kk
theorem w_callS {y : MethodName} {bytes : ByteArray} {maxL n index : Nat} {ret : Option FieldType} {C : String} {rm : Room} {As : List Value} {res : Option Value} (X : xCx D V la cyI cyF cyM t0 p m c cc nL s args own) (hM : MetW D V la Ef cyI cyF cyM t0 l y (Cond.code y bytes maxL ret :: xALL) rm As res st st') (hP : HW D V la Ef st H) (hS : va_S (xA V la) s.heap H locs) (K : xKs y bytes maxL ret C n) (hlink : Cond.methodLink own index y ∈ xALL) (hrc : rm.cells = 0) (hrs : rm.slots = 0) (hR : rm.frames + 1 ≤ R.frames ∧ 8 + (maxL + 11) + rm.locals ≤ R.locals) (hn : As.length = n) (hsz : ls.size = nL) (hW : (rest.map fun v => v.category).sum ≤ 8) (hcs : cells ≤ R.cells ∧ slots ≤ R.slots) (hdg : decode cc pc = .ok (.invokestatic index, 3))
    (kk : ∀ (H1 : Heap) (locs1 : List Loc), HW D V la Ef st' H1 → va_S (xA V la) s.heap H1 locs1 → W p l e R s m args below meth c H1 locs1 cells slots Q (F0 m (pc + 3) ls (res.toList ++ rest))) : W p l e R s m args below meth c H locs cells slots Q (F0 m pc ls (As.reverse ++ rest)) := by
  obtain ⟨k1, k2, k4, k5, k6⟩ := K
  subst k5
  exact w_call (va_runS X.1 hM ⟨callB_of n X.1.2.2.2.2 (fun w h => ⟨(List.mem_cons.mp h).elim (fun z => z ▸ k1) id, (List.mem_cons.mp h).elim (fun z => xALL_good _ (z ▸ k1)) (xALL_good _)⟩) rfl hrc hrs (X.1.2.2.2.2 _ k4) (X.1.2.2.2.2 _ hlink) k6 hR, X.1.2.2.2.2 _ k2⟩
    ⟨xPre.blind, fun U hU hWm => ⟨rfl, by rw [hU]; exact hP, by rw [hU]; exact X.2.moved hWm hS.2.1⟩⟩ rfl hn hsz rfl (lv_room hW) hdg hcs) hS kk
theorem w_callN {y : MethodName} {bytes : ByteArray} {maxL n index : Nat} {ret : Option FieldType} {C host : String} {rm : Room} {As : List Value} {res : Option Value} (X : xCx D V la cyI cyF cyM t0 p m c cc nL s args own) (hM : MetW D V la Ef cyI cyF cyM t0 l y (Cond.code y bytes maxL ret :: xALL) rm As res st st') (hP : HW D V la Ef st H) (hS : va_S (xA V la) s.heap H locs) (K : xKs y bytes maxL ret C n) (hlink : va_Nw (.methodLinkNest own index y host) s) (hrc : rm.cells = 0) (hrs : rm.slots = 0) (hR : rm.frames + 1 ≤ R.frames ∧ 8 + (maxL + 11) + rm.locals ≤ R.locals) (hn : As.length = n) (hsz : ls.size = nL) (hW : (rest.map fun v => v.category).sum ≤ 8) (hcs : cells ≤ R.cells ∧ slots ≤ R.slots) (hdg : decode cc pc = .ok (.invokestatic index, 3))
    (kk : ∀ (H1 : Heap) (locs1 : List Loc), HW D V la Ef st' H1 → va_S (xA V la) s.heap H1 locs1 → W p l e R s m args below meth c H1 locs1 cells slots Q (F0 m (pc + 3) ls (res.toList ++ rest))) : W p l e R s m args below meth c H locs cells slots Q (F0 m pc ls (As.reverse ++ rest)) := by
  obtain ⟨k1, k2, k4, k5, k6⟩ := K
  subst k5
  exact w_call (va_runSN X.1 hM ⟨va_cnB n X.1.2.2.2.2 (fun w h => ⟨(List.mem_cons.mp h).elim (fun z => z ▸ k1) id, (List.mem_cons.mp h).elim (fun z => xALL_good _ (z ▸ k1)) (xALL_good _)⟩) rfl hrc hrs hlink (X.1.2.2.2.2 _ k4) k6 hR, X.1.2.2.2.2 _ k2, trivial⟩
    ⟨xPre.blind, fun U hU hWm => ⟨rfl, by rw [hU]; exact hP, by rw [hU]; exact X.2.moved hWm hS.2.1⟩⟩ rfl hn hsz rfl (lv_room hW) hdg hcs) hS kk
end XW
end
section
/-! The class's world. Kinds: 2 Frame i, 3 Made j, 4 Memory, 5 Outcome, 6 Runner, 7 Shelf, 8 MadeCalls; 20 the single int arrays (0 counts, 1 globals, 2 arguments, 3 bytes, 4 builtIns, 5 handed, 6 walked), 21 a frame's locals, 22 a Made's rows, 23 frames, 24 all. References that change: q 0 k = which Made lies at all[k]; q 1 i = frame i's made (0 none, j+1 Made j); q 2 0 = runner.rows (0 walked, j+1 the rows of Made j). -/
def VC (mo : Nat) (c i : Nat) : Prop := match c with
  | 2 => i < 12
  | 3 => i ≤ mo
  | 4 => i = 0
  | 5 => i = 0
  | 6 => i = 0
  | 7 => i = 0
  | 8 => i = 0
  | 20 => i < 7
  | 21 => i < 12
  | 22 => i ≤ mo
  | 23 => i = 0
  | 24 => i = 0
  | _ => False
def lenC (i : Nat) : Nat := match i with
  | 0 => 8
  | 1 => 8
  | 2 => 4
  | 3 => 1024
  | 4 => 256
  | 5 => 4
  | _ => 11
def mrf (la : Nat → Nat → Nat) (mo k : Nat) : Option Nat := if k = 0 then none else some (la 3 (min (k - 1) mo))
def rwC (k : Nat) : Nat := if k = 0 then 20 else 22
def rwI (mo k : Nat) : Nat := if k = 0 then 6 else min (k - 1) mo
def rwN (k : Nat) : Nat := if k = 0 then 11 else 660
theorem mrf_0 {la : Nat → Nat → Nat} {mo k : Nat} (h : k = 0) : va_rf (mrf la mo k) = .null := by rw [h]; rfl
theorem mrf_p {la : Nat → Nat → Nat} {mo k : Nat} (h : ¬ k = 0) : va_rf (mrf la mo k) = .ref (la 3 (min (k - 1) mo)) := by unfold mrf; rw [if_neg h]; rfl
theorem mrf_or {la : Nat → Nat → Nat} {mo k : Nat} : va_rf (mrf la mo k) = .null ∨ ∃ a, va_rf (mrf la mo k) = .ref a := by
  by_cases h : k = 0
  · exact Or.inl (mrf_0 h)
  · exact Or.inr ⟨_, mrf_p h⟩
theorem mrf_s {la : Nat → Nat → Nat} {mo j : Nat} (h : j ≤ mo) : Value.ref (la 3 j) = va_rf (mrf la mo (j + 1)) := by
  rw [mrf_p (Nat.succ_ne_zero j), Nat.succ_sub_one, Nat.min_eq_left h]
theorem rw_s {la : Nat → Nat → Nat} {mo j : Nat} (h : j ≤ mo) : Value.ref (la 22 j) = .ref (la (rwC (j + 1)) (rwI mo (j + 1))) := by
  unfold rwC rwI
  rw [if_neg (Nat.succ_ne_zero j), if_neg (Nat.succ_ne_zero j), Nat.add_one_sub_one, Nat.min_eq_left h]
theorem rw_0 {la : Nat → Nat → Nat} {mo : Nat} : Value.ref (la 20 6) = .ref (la (rwC 0) (rwI mo 0)) := rfl
theorem VC_rw (mo k : Nat) : VC mo (rwC k) (rwI mo k) := by
  by_cases h : k = 0
  · subst h; exact (by decide : 6 < 7)
  · unfold rwC rwI; rw [if_neg h, if_neg h]; exact Nat.min_le_right _ _
theorem VC_m (mo k : Nat) : VC mo 3 (min k mo) := Nat.min_le_right _ _
def ECf (cyI cyF cyM : ClassId) (mo : Nat) (la : Nat → Nat → Nat) : xEf := fun g q c i => match c with
  | 2 => .inr (2, [.ref (la 21 i), .int (g 1), .int (g 2), .int (g 3), va_rf (mrf la mo (q 1 i)), .int (g 5), .int (g 6), .int (g 7), .int (g 8)])
  | 3 => .inr (3, [.ref (la 22 i), .int (g 1), .int (g 2), .int (g 3), .int (g 4), .int (g 5)])
  | 4 => .inr (4, [.ref (la 20 3), .ref (la 7 0)])
  | 5 => .inr (5, [.int (g 0), .int (g 1), .int (g 2), .int (g 3), .int (g 4)])
  | 6 => .inr (6, [.ref (la 5 0), .ref (la 20 4), .ref (la 4 0), .ref (la 7 0), .ref (la 20 1), .ref (la 20 0), .ref (la 23 0), .ref (la 20 5), .ref (la 20 6), .int (g 9), .int (g 10), .int (g 11), .ref (la (rwC (q 2 0)) (rwI mo (q 2 0))), .int (g 13), .int (g 14), .int (g 15)])
  | 7 => .inr (7, [.int (g 0), .ref (la 24 0), .ref (la 20 0), .int (g 3)])
  | 8 => .inr (8, [.ref (la 20 0), .ref (la 20 1), .ref (la 20 2), .ref (la 7 0), .ref (la 4 0), .ref (la 6 0), .int (g 6)])
  | 20 => .inl (cyI, lenC i, .inl g)
  | 21 => .inl (cyI, 8, .inl g)
  | 22 => .inl (cyI, 660, .inl g)
  | 23 => .inl (cyF, 12, .inr (.inr (.inr (.inr (fun j => some (la 2 j))))))
  | 24 => .inl (cyM, mo + 1, .inr (.inr (.inr (.inr (fun j => some (la 3 (min (q 0 j) mo)))))))
  | _ => .inr (0, [])
theorem ECf_rw {cyI cyF cyM : ClassId} {mo : Nat} {la : Nat → Nat → Nat} (g : Nat → Int32) (q : Nat → Nat → Nat) (k : Nat) : ECf cyI cyF cyM mo la g q (rwC k) (rwI mo k) = .inl (cyI, rwN k, .inl g) := by
  by_cases h : k = 0
  · subst h; rfl
  · unfold rwC rwN; rw [if_neg h, if_neg h]; rfl
abbrev HC (D : va_G) (cyI cyF cyM : ClassId) (mo : Nat) (la : Nat → Nat → Nat) : xSt → Heap → Prop := HW D (VC mo) la (ECf cyI cyF cyM mo la)
abbrev MetC (D : va_G) (cyI cyF cyM : ClassId) (mo : Nat) (la : Nat → Nat → Nat) (t0 : Nat) (l : Launch) := MetW D (VC mo) la (ECf cyI cyF cyM mo la) cyI cyF cyM t0 l
section XC
variable {p : Program} {l : Launch} {e : Env} {R : Room} {s : State} {m : MethodId} {args : Array Value} {below : List Frame} {meth : Method} {c : Code} {H : Heap} {locs : List Loc} {cells slots : Nat} {Q : State → Prop}
variable {cc : ByteArray} {nL pc : Nat} {ls : Array Slot} {rest : List Value} {D : va_G} {la : Nat → Nat → Nat} {cyI cyF cyM : ClassId} {t0 mo : Nat} {own : String} {st st' : xSt}
theorem gC_Frame_locals (X : xCx D (VC mo) la cyI cyF cyM t0 p m c cc nL s args own) (hP : HW D (VC mo) la (ECf cyI cyF cyM mo la) st H) {i : Nat} (hV : VC mo 2 i) {index : Nat} (hlink : Cond.fieldLink own index "MadeCalls$Frame" "locals" "[I" ∈ xALL) (hdg : decode cc pc = .ok (.getfield index, 3)) (kk : W p l e R s m args below meth c H locs cells slots Q (F0 m (pc + 3) ls (.ref (la 21 i) :: rest))) : W p l e R s m args below meth c H locs cells slots Q (F0 m pc ls (.ref (la 2 i) :: rest)) := w_get X hP (c0 := 2) (i0 := i) hV rfl rfl la_X1 0 (by decide) hlink rfl hdg kk
theorem gC_Frame_has (X : xCx D (VC mo) la cyI cyF cyM t0 p m c cc nL s args own) (hP : HW D (VC mo) la (ECf cyI cyF cyM mo la) st H) {i : Nat} (hV : VC mo 2 i) {index : Nat} (hlink : Cond.fieldLink own index "MadeCalls$Frame" "has" "I" ∈ xALL) (hdg : decode cc pc = .ok (.getfield index, 3)) (kk : W p l e R s m args below meth c H locs cells slots Q (F0 m (pc + 3) ls (.int (st.1 2 i 1) :: rest))) : W p l e R s m args below meth c H locs cells slots Q (F0 m pc ls (.ref (la 2 i) :: rest)) := w_get X hP (c0 := 2) (i0 := i) hV rfl rfl la_X1 1 (by decide) hlink rfl hdg kk
theorem pC_Frame_has (X : xCx D (VC mo) la cyI cyF cyM t0 p m c cc nL s args own) (hP : HW D (VC mo) la (ECf cyI cyF cyM mo la) st H) (hS : va_S (xA (VC mo) la) s.heap H locs) {i : Nat} (hV : VC mo 2 i) {v : Int32} {index : Nat} (hlink : Cond.fieldLink own index "MadeCalls$Frame" "has" "I" ∈ xALL) (hdg : decode cc pc = .ok (.putfield index, 3)) (kk : ∀ (H1 : Heap) (locs1 : List Loc), HW D (VC mo) la (ECf cyI cyF cyM mo la) (pI st 2 i 1 v) H1 → va_S (xA (VC mo) la) s.heap H1 locs1 → W p l e R s m args below meth c H1 locs1 cells slots Q (F0 m (pc + 3) ls rest)) : W p l e R s m args below meth c H locs cells slots Q (F0 m pc ls (.int v :: .ref (la 2 i) :: rest)) := w_putI X hP hS (c0 := 2) (i0 := i) hV rfl rfl la_X1 tyX1 tyX1_ok nmX1 1 (by decide) rfl (ty := .int) (by decide +kernel) rfl rfl (Nat.le_of_ble_eq_true rfl) rfl hlink hdg kk
theorem gC_Frame_address (X : xCx D (VC mo) la cyI cyF cyM t0 p m c cc nL s args own) (hP : HW D (VC mo) la (ECf cyI cyF cyM mo la) st H) {i : Nat} (hV : VC mo 2 i) {index : Nat} (hlink : Cond.fieldLink own index "MadeCalls$Frame" "address" "I" ∈ xALL) (hdg : decode cc pc = .ok (.getfield index, 3)) (kk : W p l e R s m args below meth c H locs cells slots Q (F0 m (pc + 3) ls (.int (st.1 2 i 2) :: rest))) : W p l e R s m args below meth c H locs cells slots Q (F0 m pc ls (.ref (la 2 i) :: rest)) := w_get X hP (c0 := 2) (i0 := i) hV rfl rfl la_X1 2 (by decide) hlink rfl hdg kk
theorem pC_Frame_address (X : xCx D (VC mo) la cyI cyF cyM t0 p m c cc nL s args own) (hP : HW D (VC mo) la (ECf cyI cyF cyM mo la) st H) (hS : va_S (xA (VC mo) la) s.heap H locs) {i : Nat} (hV : VC mo 2 i) {v : Int32} {index : Nat} (hlink : Cond.fieldLink own index "MadeCalls$Frame" "address" "I" ∈ xALL) (hdg : decode cc pc = .ok (.putfield index, 3)) (kk : ∀ (H1 : Heap) (locs1 : List Loc), HW D (VC mo) la (ECf cyI cyF cyM mo la) (pI st 2 i 2 v) H1 → va_S (xA (VC mo) la) s.heap H1 locs1 → W p l e R s m args below meth c H1 locs1 cells slots Q (F0 m (pc + 3) ls rest)) : W p l e R s m args below meth c H locs cells slots Q (F0 m pc ls (.int v :: .ref (la 2 i) :: rest)) := w_putI X hP hS (c0 := 2) (i0 := i) hV rfl rfl la_X1 tyX1 tyX1_ok nmX1 2 (by decide) rfl (ty := .int) (by decide +kernel) rfl rfl (Nat.le_of_ble_eq_true rfl) rfl hlink hdg kk
theorem gC_Frame_next (X : xCx D (VC mo) la cyI cyF cyM t0 p m c cc nL s args own) (hP : HW D (VC mo) la (ECf cyI cyF cyM mo la) st H) {i : Nat} (hV : VC mo 2 i) {index : Nat} (hlink : Cond.fieldLink own index "MadeCalls$Frame" "next" "I" ∈ xALL) (hdg : decode cc pc = .ok (.getfield index, 3)) (kk : W p l e R s m args below meth c H locs cells slots Q (F0 m (pc + 3) ls (.int (st.1 2 i 3) :: rest))) : W p l e R s m args below meth c H locs cells slots Q (F0 m pc ls (.ref (la 2 i) :: rest)) := w_get X hP (c0 := 2) (i0 := i) hV rfl rfl la_X1 3 (by decide) hlink rfl hdg kk
theorem pC_Frame_next (X : xCx D (VC mo) la cyI cyF cyM t0 p m c cc nL s args own) (hP : HW D (VC mo) la (ECf cyI cyF cyM mo la) st H) (hS : va_S (xA (VC mo) la) s.heap H locs) {i : Nat} (hV : VC mo 2 i) {v : Int32} {index : Nat} (hlink : Cond.fieldLink own index "MadeCalls$Frame" "next" "I" ∈ xALL) (hdg : decode cc pc = .ok (.putfield index, 3)) (kk : ∀ (H1 : Heap) (locs1 : List Loc), HW D (VC mo) la (ECf cyI cyF cyM mo la) (pI st 2 i 3 v) H1 → va_S (xA (VC mo) la) s.heap H1 locs1 → W p l e R s m args below meth c H1 locs1 cells slots Q (F0 m (pc + 3) ls rest)) : W p l e R s m args below meth c H locs cells slots Q (F0 m pc ls (.int v :: .ref (la 2 i) :: rest)) := w_putI X hP hS (c0 := 2) (i0 := i) hV rfl rfl la_X1 tyX1 tyX1_ok nmX1 3 (by decide) rfl (ty := .int) (by decide +kernel) rfl rfl (Nat.le_of_ble_eq_true rfl) rfl hlink hdg kk
theorem gC_Frame_made (X : xCx D (VC mo) la cyI cyF cyM t0 p m c cc nL s args own) (hP : HW D (VC mo) la (ECf cyI cyF cyM mo la) st H) {i : Nat} (hV : VC mo 2 i) {index : Nat} (hlink : Cond.fieldLink own index "MadeCalls$Frame" "made" "LMadeCalls$Made;" ∈ xALL) (hdg : decode cc pc = .ok (.getfield index, 3)) (kk : W p l e R s m args below meth c H locs cells slots Q (F0 m (pc + 3) ls (va_rf (mrf la mo (st.2 1 i)) :: rest))) : W p l e R s m args below meth c H locs cells slots Q (F0 m pc ls (.ref (la 2 i) :: rest)) := w_get X hP (c0 := 2) (i0 := i) hV rfl rfl la_X1 4 (by decide) hlink rfl hdg kk
theorem gC_Frame_nextRow (X : xCx D (VC mo) la cyI cyF cyM t0 p m c cc nL s args own) (hP : HW D (VC mo) la (ECf cyI cyF cyM mo la) st H) {i : Nat} (hV : VC mo 2 i) {index : Nat} (hlink : Cond.fieldLink own index "MadeCalls$Frame" "nextRow" "I" ∈ xALL) (hdg : decode cc pc = .ok (.getfield index, 3)) (kk : W p l e R s m args below meth c H locs cells slots Q (F0 m (pc + 3) ls (.int (st.1 2 i 5) :: rest))) : W p l e R s m args below meth c H locs cells slots Q (F0 m pc ls (.ref (la 2 i) :: rest)) := w_get X hP (c0 := 2) (i0 := i) hV rfl rfl la_X1 5 (by decide) hlink rfl hdg kk
theorem pC_Frame_nextRow (X : xCx D (VC mo) la cyI cyF cyM t0 p m c cc nL s args own) (hP : HW D (VC mo) la (ECf cyI cyF cyM mo la) st H) (hS : va_S (xA (VC mo) la) s.heap H locs) {i : Nat} (hV : VC mo 2 i) {v : Int32} {index : Nat} (hlink : Cond.fieldLink own index "MadeCalls$Frame" "nextRow" "I" ∈ xALL) (hdg : decode cc pc = .ok (.putfield index, 3)) (kk : ∀ (H1 : Heap) (locs1 : List Loc), HW D (VC mo) la (ECf cyI cyF cyM mo la) (pI st 2 i 5 v) H1 → va_S (xA (VC mo) la) s.heap H1 locs1 → W p l e R s m args below meth c H1 locs1 cells slots Q (F0 m (pc + 3) ls rest)) : W p l e R s m args below meth c H locs cells slots Q (F0 m pc ls (.int v :: .ref (la 2 i) :: rest)) := w_putI X hP hS (c0 := 2) (i0 := i) hV rfl rfl la_X1 tyX1 tyX1_ok nmX1 5 (by decide) rfl (ty := .int) (by decide +kernel) rfl rfl (Nat.le_of_ble_eq_true rfl) rfl hlink hdg kk
theorem gC_Frame_catchAt (X : xCx D (VC mo) la cyI cyF cyM t0 p m c cc nL s args own) (hP : HW D (VC mo) la (ECf cyI cyF cyM mo la) st H) {i : Nat} (hV : VC mo 2 i) {index : Nat} (hlink : Cond.fieldLink own index "MadeCalls$Frame" "catchAt" "I" ∈ xALL) (hdg : decode cc pc = .ok (.getfield index, 3)) (kk : W p l e R s m args below meth c H locs cells slots Q (F0 m (pc + 3) ls (.int (st.1 2 i 6) :: rest))) : W p l e R s m args below meth c H locs cells slots Q (F0 m pc ls (.ref (la 2 i) :: rest)) := w_get X hP (c0 := 2) (i0 := i) hV rfl rfl la_X1 6 (by decide) hlink rfl hdg kk
theorem pC_Frame_catchAt (X : xCx D (VC mo) la cyI cyF cyM t0 p m c cc nL s args own) (hP : HW D (VC mo) la (ECf cyI cyF cyM mo la) st H) (hS : va_S (xA (VC mo) la) s.heap H locs) {i : Nat} (hV : VC mo 2 i) {v : Int32} {index : Nat} (hlink : Cond.fieldLink own index "MadeCalls$Frame" "catchAt" "I" ∈ xALL) (hdg : decode cc pc = .ok (.putfield index, 3)) (kk : ∀ (H1 : Heap) (locs1 : List Loc), HW D (VC mo) la (ECf cyI cyF cyM mo la) (pI st 2 i 6 v) H1 → va_S (xA (VC mo) la) s.heap H1 locs1 → W p l e R s m args below meth c H1 locs1 cells slots Q (F0 m (pc + 3) ls rest)) : W p l e R s m args below meth c H locs cells slots Q (F0 m pc ls (.int v :: .ref (la 2 i) :: rest)) := w_putI X hP hS (c0 := 2) (i0 := i) hV rfl rfl la_X1 tyX1 tyX1_ok nmX1 6 (by decide) rfl (ty := .int) (by decide +kernel) rfl rfl (Nat.le_of_ble_eq_true rfl) rfl hlink hdg kk
theorem gC_Frame_catchRow (X : xCx D (VC mo) la cyI cyF cyM t0 p m c cc nL s args own) (hP : HW D (VC mo) la (ECf cyI cyF cyM mo la) st H) {i : Nat} (hV : VC mo 2 i) {index : Nat} (hlink : Cond.fieldLink own index "MadeCalls$Frame" "catchRow" "I" ∈ xALL) (hdg : decode cc pc = .ok (.getfield index, 3)) (kk : W p l e R s m args below meth c H locs cells slots Q (F0 m (pc + 3) ls (.int (st.1 2 i 7) :: rest))) : W p l e R s m args below meth c H locs cells slots Q (F0 m pc ls (.ref (la 2 i) :: rest)) := w_get X hP (c0 := 2) (i0 := i) hV rfl rfl la_X1 7 (by decide) hlink rfl hdg kk
theorem pC_Frame_catchRow (X : xCx D (VC mo) la cyI cyF cyM t0 p m c cc nL s args own) (hP : HW D (VC mo) la (ECf cyI cyF cyM mo la) st H) (hS : va_S (xA (VC mo) la) s.heap H locs) {i : Nat} (hV : VC mo 2 i) {v : Int32} {index : Nat} (hlink : Cond.fieldLink own index "MadeCalls$Frame" "catchRow" "I" ∈ xALL) (hdg : decode cc pc = .ok (.putfield index, 3)) (kk : ∀ (H1 : Heap) (locs1 : List Loc), HW D (VC mo) la (ECf cyI cyF cyM mo la) (pI st 2 i 7 v) H1 → va_S (xA (VC mo) la) s.heap H1 locs1 → W p l e R s m args below meth c H1 locs1 cells slots Q (F0 m (pc + 3) ls rest)) : W p l e R s m args below meth c H locs cells slots Q (F0 m pc ls (.int v :: .ref (la 2 i) :: rest)) := w_putI X hP hS (c0 := 2) (i0 := i) hV rfl rfl la_X1 tyX1 tyX1_ok nmX1 7 (by decide) rfl (ty := .int) (by decide +kernel) rfl rfl (Nat.le_of_ble_eq_true rfl) rfl hlink hdg kk
theorem gC_Frame_into (X : xCx D (VC mo) la cyI cyF cyM t0 p m c cc nL s args own) (hP : HW D (VC mo) la (ECf cyI cyF cyM mo la) st H) {i : Nat} (hV : VC mo 2 i) {index : Nat} (hlink : Cond.fieldLink own index "MadeCalls$Frame" "into" "I" ∈ xALL) (hdg : decode cc pc = .ok (.getfield index, 3)) (kk : W p l e R s m args below meth c H locs cells slots Q (F0 m (pc + 3) ls (.int (st.1 2 i 8) :: rest))) : W p l e R s m args below meth c H locs cells slots Q (F0 m pc ls (.ref (la 2 i) :: rest)) := w_get X hP (c0 := 2) (i0 := i) hV rfl rfl la_X1 8 (by decide) hlink rfl hdg kk
theorem pC_Frame_into (X : xCx D (VC mo) la cyI cyF cyM t0 p m c cc nL s args own) (hP : HW D (VC mo) la (ECf cyI cyF cyM mo la) st H) (hS : va_S (xA (VC mo) la) s.heap H locs) {i : Nat} (hV : VC mo 2 i) {v : Int32} {index : Nat} (hlink : Cond.fieldLink own index "MadeCalls$Frame" "into" "I" ∈ xALL) (hdg : decode cc pc = .ok (.putfield index, 3)) (kk : ∀ (H1 : Heap) (locs1 : List Loc), HW D (VC mo) la (ECf cyI cyF cyM mo la) (pI st 2 i 8 v) H1 → va_S (xA (VC mo) la) s.heap H1 locs1 → W p l e R s m args below meth c H1 locs1 cells slots Q (F0 m (pc + 3) ls rest)) : W p l e R s m args below meth c H locs cells slots Q (F0 m pc ls (.int v :: .ref (la 2 i) :: rest)) := w_putI X hP hS (c0 := 2) (i0 := i) hV rfl rfl la_X1 tyX1 tyX1_ok nmX1 8 (by decide) rfl (ty := .int) (by decide +kernel) rfl rfl (Nat.le_of_ble_eq_true rfl) rfl hlink hdg kk
theorem gC_Made_rows (X : xCx D (VC mo) la cyI cyF cyM t0 p m c cc nL s args own) (hP : HW D (VC mo) la (ECf cyI cyF cyM mo la) st H) {i : Nat} (hV : VC mo 3 i) {index : Nat} (hlink : Cond.fieldLink own index "MadeCalls$Made" "rows" "[I" ∈ xALL) (hdg : decode cc pc = .ok (.getfield index, 3)) (kk : W p l e R s m args below meth c H locs cells slots Q (F0 m (pc + 3) ls (.ref (la 22 i) :: rest))) : W p l e R s m args below meth c H locs cells slots Q (F0 m pc ls (.ref (la 3 i) :: rest)) := w_get X hP (c0 := 3) (i0 := i) hV rfl rfl la_X2 0 (by decide) hlink rfl hdg kk
theorem gC_Made_size (X : xCx D (VC mo) la cyI cyF cyM t0 p m c cc nL s args own) (hP : HW D (VC mo) la (ECf cyI cyF cyM mo la) st H) {i : Nat} (hV : VC mo 3 i) {index : Nat} (hlink : Cond.fieldLink own index "MadeCalls$Made" "size" "I" ∈ xALL) (hdg : decode cc pc = .ok (.getfield index, 3)) (kk : W p l e R s m args below meth c H locs cells slots Q (F0 m (pc + 3) ls (.int (st.1 3 i 1) :: rest))) : W p l e R s m args below meth c H locs cells slots Q (F0 m pc ls (.ref (la 3 i) :: rest)) := w_get X hP (c0 := 3) (i0 := i) hV rfl rfl la_X2 1 (by decide) hlink rfl hdg kk
theorem pC_Made_size (X : xCx D (VC mo) la cyI cyF cyM t0 p m c cc nL s args own) (hP : HW D (VC mo) la (ECf cyI cyF cyM mo la) st H) (hS : va_S (xA (VC mo) la) s.heap H locs) {i : Nat} (hV : VC mo 3 i) {v : Int32} {index : Nat} (hlink : Cond.fieldLink own index "MadeCalls$Made" "size" "I" ∈ xALL) (hdg : decode cc pc = .ok (.putfield index, 3)) (kk : ∀ (H1 : Heap) (locs1 : List Loc), HW D (VC mo) la (ECf cyI cyF cyM mo la) (pI st 3 i 1 v) H1 → va_S (xA (VC mo) la) s.heap H1 locs1 → W p l e R s m args below meth c H1 locs1 cells slots Q (F0 m (pc + 3) ls rest)) : W p l e R s m args below meth c H locs cells slots Q (F0 m pc ls (.int v :: .ref (la 3 i) :: rest)) := w_putI X hP hS (c0 := 3) (i0 := i) hV rfl rfl la_X2 tyX2 tyX2_ok nmX2 1 (by decide) rfl (ty := .int) (by decide +kernel) rfl rfl (Nat.le_of_ble_eq_true rfl) rfl hlink hdg kk
theorem gC_Made_address (X : xCx D (VC mo) la cyI cyF cyM t0 p m c cc nL s args own) (hP : HW D (VC mo) la (ECf cyI cyF cyM mo la) st H) {i : Nat} (hV : VC mo 3 i) {index : Nat} (hlink : Cond.fieldLink own index "MadeCalls$Made" "address" "I" ∈ xALL) (hdg : decode cc pc = .ok (.getfield index, 3)) (kk : W p l e R s m args below meth c H locs cells slots Q (F0 m (pc + 3) ls (.int (st.1 3 i 2) :: rest))) : W p l e R s m args below meth c H locs cells slots Q (F0 m pc ls (.ref (la 3 i) :: rest)) := w_get X hP (c0 := 3) (i0 := i) hV rfl rfl la_X2 2 (by decide) hlink rfl hdg kk
theorem pC_Made_address (X : xCx D (VC mo) la cyI cyF cyM t0 p m c cc nL s args own) (hP : HW D (VC mo) la (ECf cyI cyF cyM mo la) st H) (hS : va_S (xA (VC mo) la) s.heap H locs) {i : Nat} (hV : VC mo 3 i) {v : Int32} {index : Nat} (hlink : Cond.fieldLink own index "MadeCalls$Made" "address" "I" ∈ xALL) (hdg : decode cc pc = .ok (.putfield index, 3)) (kk : ∀ (H1 : Heap) (locs1 : List Loc), HW D (VC mo) la (ECf cyI cyF cyM mo la) (pI st 3 i 2 v) H1 → va_S (xA (VC mo) la) s.heap H1 locs1 → W p l e R s m args below meth c H1 locs1 cells slots Q (F0 m (pc + 3) ls rest)) : W p l e R s m args below meth c H locs cells slots Q (F0 m pc ls (.int v :: .ref (la 3 i) :: rest)) := w_putI X hP hS (c0 := 3) (i0 := i) hV rfl rfl la_X2 tyX2 tyX2_ok nmX2 2 (by decide) rfl (ty := .int) (by decide +kernel) rfl rfl (Nat.le_of_ble_eq_true rfl) rfl hlink hdg kk
theorem gC_Made_isKept (X : xCx D (VC mo) la cyI cyF cyM t0 p m c cc nL s args own) (hP : HW D (VC mo) la (ECf cyI cyF cyM mo la) st H) {i : Nat} (hV : VC mo 3 i) {index : Nat} (hlink : Cond.fieldLink own index "MadeCalls$Made" "isKept" "Z" ∈ xALL) (hdg : decode cc pc = .ok (.getfield index, 3)) (kk : W p l e R s m args below meth c H locs cells slots Q (F0 m (pc + 3) ls (.int (st.1 3 i 3) :: rest))) : W p l e R s m args below meth c H locs cells slots Q (F0 m pc ls (.ref (la 3 i) :: rest)) := w_get X hP (c0 := 3) (i0 := i) hV rfl rfl la_X2 3 (by decide) hlink rfl hdg kk
theorem pC_Made_isKept (X : xCx D (VC mo) la cyI cyF cyM t0 p m c cc nL s args own) (hP : HW D (VC mo) la (ECf cyI cyF cyM mo la) st H) (hS : va_S (xA (VC mo) la) s.heap H locs) {i : Nat} (hV : VC mo 3 i) {v : Int32} (hz : v = 0 ∨ v = 1) {index : Nat} (hlink : Cond.fieldLink own index "MadeCalls$Made" "isKept" "Z" ∈ xALL) (hdg : decode cc pc = .ok (.putfield index, 3)) (kk : ∀ (H1 : Heap) (locs1 : List Loc), HW D (VC mo) la (ECf cyI cyF cyM mo la) (pI st 3 i 3 v) H1 → va_S (xA (VC mo) la) s.heap H1 locs1 → W p l e R s m args below meth c H1 locs1 cells slots Q (F0 m (pc + 3) ls rest)) : W p l e R s m args below meth c H locs cells slots Q (F0 m pc ls (.int v :: .ref (la 3 i) :: rest)) := w_putI X hP hS (c0 := 3) (i0 := i) hV rfl rfl la_X2 tyX2 tyX2_ok nmX2 3 (by decide) rfl (ty := .boolean) (by decide +kernel) (by rcases hz with rfl | rfl <;> rfl) (by rcases hz with rfl | rfl <;> rfl) (Nat.le_of_ble_eq_true rfl) rfl hlink hdg kk
theorem gC_Made_firstPage (X : xCx D (VC mo) la cyI cyF cyM t0 p m c cc nL s args own) (hP : HW D (VC mo) la (ECf cyI cyF cyM mo la) st H) {i : Nat} (hV : VC mo 3 i) {index : Nat} (hlink : Cond.fieldLink own index "MadeCalls$Made" "firstPage" "I" ∈ xALL) (hdg : decode cc pc = .ok (.getfield index, 3)) (kk : W p l e R s m args below meth c H locs cells slots Q (F0 m (pc + 3) ls (.int (st.1 3 i 4) :: rest))) : W p l e R s m args below meth c H locs cells slots Q (F0 m pc ls (.ref (la 3 i) :: rest)) := w_get X hP (c0 := 3) (i0 := i) hV rfl rfl la_X2 4 (by decide) hlink rfl hdg kk
theorem pC_Made_firstPage (X : xCx D (VC mo) la cyI cyF cyM t0 p m c cc nL s args own) (hP : HW D (VC mo) la (ECf cyI cyF cyM mo la) st H) (hS : va_S (xA (VC mo) la) s.heap H locs) {i : Nat} (hV : VC mo 3 i) {v : Int32} {index : Nat} (hlink : Cond.fieldLink own index "MadeCalls$Made" "firstPage" "I" ∈ xALL) (hdg : decode cc pc = .ok (.putfield index, 3)) (kk : ∀ (H1 : Heap) (locs1 : List Loc), HW D (VC mo) la (ECf cyI cyF cyM mo la) (pI st 3 i 4 v) H1 → va_S (xA (VC mo) la) s.heap H1 locs1 → W p l e R s m args below meth c H1 locs1 cells slots Q (F0 m (pc + 3) ls rest)) : W p l e R s m args below meth c H locs cells slots Q (F0 m pc ls (.int v :: .ref (la 3 i) :: rest)) := w_putI X hP hS (c0 := 3) (i0 := i) hV rfl rfl la_X2 tyX2 tyX2_ok nmX2 4 (by decide) rfl (ty := .int) (by decide +kernel) rfl rfl (Nat.le_of_ble_eq_true rfl) rfl hlink hdg kk
theorem gC_Made_lastPage (X : xCx D (VC mo) la cyI cyF cyM t0 p m c cc nL s args own) (hP : HW D (VC mo) la (ECf cyI cyF cyM mo la) st H) {i : Nat} (hV : VC mo 3 i) {index : Nat} (hlink : Cond.fieldLink own index "MadeCalls$Made" "lastPage" "I" ∈ xALL) (hdg : decode cc pc = .ok (.getfield index, 3)) (kk : W p l e R s m args below meth c H locs cells slots Q (F0 m (pc + 3) ls (.int (st.1 3 i 5) :: rest))) : W p l e R s m args below meth c H locs cells slots Q (F0 m pc ls (.ref (la 3 i) :: rest)) := w_get X hP (c0 := 3) (i0 := i) hV rfl rfl la_X2 5 (by decide) hlink rfl hdg kk
theorem pC_Made_lastPage (X : xCx D (VC mo) la cyI cyF cyM t0 p m c cc nL s args own) (hP : HW D (VC mo) la (ECf cyI cyF cyM mo la) st H) (hS : va_S (xA (VC mo) la) s.heap H locs) {i : Nat} (hV : VC mo 3 i) {v : Int32} {index : Nat} (hlink : Cond.fieldLink own index "MadeCalls$Made" "lastPage" "I" ∈ xALL) (hdg : decode cc pc = .ok (.putfield index, 3)) (kk : ∀ (H1 : Heap) (locs1 : List Loc), HW D (VC mo) la (ECf cyI cyF cyM mo la) (pI st 3 i 5 v) H1 → va_S (xA (VC mo) la) s.heap H1 locs1 → W p l e R s m args below meth c H1 locs1 cells slots Q (F0 m (pc + 3) ls rest)) : W p l e R s m args below meth c H locs cells slots Q (F0 m pc ls (.int v :: .ref (la 3 i) :: rest)) := w_putI X hP hS (c0 := 3) (i0 := i) hV rfl rfl la_X2 tyX2 tyX2_ok nmX2 5 (by decide) rfl (ty := .int) (by decide +kernel) rfl rfl (Nat.le_of_ble_eq_true rfl) rfl hlink hdg kk
theorem gC_Memory_bytes (X : xCx D (VC mo) la cyI cyF cyM t0 p m c cc nL s args own) (hP : HW D (VC mo) la (ECf cyI cyF cyM mo la) st H) {index : Nat} (hlink : Cond.fieldLink own index "MadeCalls$Memory" "bytes" "[I" ∈ xALL) (hdg : decode cc pc = .ok (.getfield index, 3)) (kk : W p l e R s m args below meth c H locs cells slots Q (F0 m (pc + 3) ls (.ref (la 20 3) :: rest))) : W p l e R s m args below meth c H locs cells slots Q (F0 m pc ls (.ref (la 4 0) :: rest)) := w_get X hP (c0 := 4) (i0 := 0) rfl rfl rfl la_X3 0 (by decide) hlink rfl hdg kk
theorem gC_Memory_shelf (X : xCx D (VC mo) la cyI cyF cyM t0 p m c cc nL s args own) (hP : HW D (VC mo) la (ECf cyI cyF cyM mo la) st H) {index : Nat} (hlink : Cond.fieldLink own index "MadeCalls$Memory" "shelf" "LMadeCalls$Shelf;" ∈ xALL) (hdg : decode cc pc = .ok (.getfield index, 3)) (kk : W p l e R s m args below meth c H locs cells slots Q (F0 m (pc + 3) ls (.ref (la 7 0) :: rest))) : W p l e R s m args below meth c H locs cells slots Q (F0 m pc ls (.ref (la 4 0) :: rest)) := w_get X hP (c0 := 4) (i0 := 0) rfl rfl rfl la_X3 1 (by decide) hlink rfl hdg kk
theorem gC_Outcome_value (X : xCx D (VC mo) la cyI cyF cyM t0 p m c cc nL s args own) (hP : HW D (VC mo) la (ECf cyI cyF cyM mo la) st H) {index : Nat} (hlink : Cond.fieldLink own index "MadeCalls$Outcome" "value" "I" ∈ xALL) (hdg : decode cc pc = .ok (.getfield index, 3)) (kk : W p l e R s m args below meth c H locs cells slots Q (F0 m (pc + 3) ls (.int (st.1 5 0 0) :: rest))) : W p l e R s m args below meth c H locs cells slots Q (F0 m pc ls (.ref (la 5 0) :: rest)) := w_get X hP (c0 := 5) (i0 := 0) rfl rfl rfl la_X4 0 (by decide) hlink rfl hdg kk
theorem pC_Outcome_value (X : xCx D (VC mo) la cyI cyF cyM t0 p m c cc nL s args own) (hP : HW D (VC mo) la (ECf cyI cyF cyM mo la) st H) (hS : va_S (xA (VC mo) la) s.heap H locs) {v : Int32} {index : Nat} (hlink : Cond.fieldLink own index "MadeCalls$Outcome" "value" "I" ∈ xALL) (hdg : decode cc pc = .ok (.putfield index, 3)) (kk : ∀ (H1 : Heap) (locs1 : List Loc), HW D (VC mo) la (ECf cyI cyF cyM mo la) (pI st 5 0 0 v) H1 → va_S (xA (VC mo) la) s.heap H1 locs1 → W p l e R s m args below meth c H1 locs1 cells slots Q (F0 m (pc + 3) ls rest)) : W p l e R s m args below meth c H locs cells slots Q (F0 m pc ls (.int v :: .ref (la 5 0) :: rest)) := w_putI X hP hS (c0 := 5) (i0 := 0) rfl rfl rfl la_X4 tyX4 tyX4_ok nmX4 0 (by decide) rfl (ty := .int) (by decide +kernel) rfl rfl (Nat.le_of_ble_eq_true rfl) rfl hlink hdg kk
theorem gC_Outcome_fault (X : xCx D (VC mo) la cyI cyF cyM t0 p m c cc nL s args own) (hP : HW D (VC mo) la (ECf cyI cyF cyM mo la) st H) {index : Nat} (hlink : Cond.fieldLink own index "MadeCalls$Outcome" "fault" "I" ∈ xALL) (hdg : decode cc pc = .ok (.getfield index, 3)) (kk : W p l e R s m args below meth c H locs cells slots Q (F0 m (pc + 3) ls (.int (st.1 5 0 1) :: rest))) : W p l e R s m args below meth c H locs cells slots Q (F0 m pc ls (.ref (la 5 0) :: rest)) := w_get X hP (c0 := 5) (i0 := 0) rfl rfl rfl la_X4 1 (by decide) hlink rfl hdg kk
theorem pC_Outcome_fault (X : xCx D (VC mo) la cyI cyF cyM t0 p m c cc nL s args own) (hP : HW D (VC mo) la (ECf cyI cyF cyM mo la) st H) (hS : va_S (xA (VC mo) la) s.heap H locs) {v : Int32} {index : Nat} (hlink : Cond.fieldLink own index "MadeCalls$Outcome" "fault" "I" ∈ xALL) (hdg : decode cc pc = .ok (.putfield index, 3)) (kk : ∀ (H1 : Heap) (locs1 : List Loc), HW D (VC mo) la (ECf cyI cyF cyM mo la) (pI st 5 0 1 v) H1 → va_S (xA (VC mo) la) s.heap H1 locs1 → W p l e R s m args below meth c H1 locs1 cells slots Q (F0 m (pc + 3) ls rest)) : W p l e R s m args below meth c H locs cells slots Q (F0 m pc ls (.int v :: .ref (la 5 0) :: rest)) := w_putI X hP hS (c0 := 5) (i0 := 0) rfl rfl rfl la_X4 tyX4 tyX4_ok nmX4 1 (by decide) rfl (ty := .int) (by decide +kernel) rfl rfl (Nat.le_of_ble_eq_true rfl) rfl hlink hdg kk
theorem gC_Outcome_address (X : xCx D (VC mo) la cyI cyF cyM t0 p m c cc nL s args own) (hP : HW D (VC mo) la (ECf cyI cyF cyM mo la) st H) {index : Nat} (hlink : Cond.fieldLink own index "MadeCalls$Outcome" "address" "I" ∈ xALL) (hdg : decode cc pc = .ok (.getfield index, 3)) (kk : W p l e R s m args below meth c H locs cells slots Q (F0 m (pc + 3) ls (.int (st.1 5 0 2) :: rest))) : W p l e R s m args below meth c H locs cells slots Q (F0 m pc ls (.ref (la 5 0) :: rest)) := w_get X hP (c0 := 5) (i0 := 0) rfl rfl rfl la_X4 2 (by decide) hlink rfl hdg kk
theorem pC_Outcome_address (X : xCx D (VC mo) la cyI cyF cyM t0 p m c cc nL s args own) (hP : HW D (VC mo) la (ECf cyI cyF cyM mo la) st H) (hS : va_S (xA (VC mo) la) s.heap H locs) {v : Int32} {index : Nat} (hlink : Cond.fieldLink own index "MadeCalls$Outcome" "address" "I" ∈ xALL) (hdg : decode cc pc = .ok (.putfield index, 3)) (kk : ∀ (H1 : Heap) (locs1 : List Loc), HW D (VC mo) la (ECf cyI cyF cyM mo la) (pI st 5 0 2 v) H1 → va_S (xA (VC mo) la) s.heap H1 locs1 → W p l e R s m args below meth c H1 locs1 cells slots Q (F0 m (pc + 3) ls rest)) : W p l e R s m args below meth c H locs cells slots Q (F0 m pc ls (.int v :: .ref (la 5 0) :: rest)) := w_putI X hP hS (c0 := 5) (i0 := 0) rfl rfl rfl la_X4 tyX4 tyX4_ok nmX4 2 (by decide) rfl (ty := .int) (by decide +kernel) rfl rfl (Nat.le_of_ble_eq_true rfl) rfl hlink hdg kk
theorem gC_Outcome_offset (X : xCx D (VC mo) la cyI cyF cyM t0 p m c cc nL s args own) (hP : HW D (VC mo) la (ECf cyI cyF cyM mo la) st H) {index : Nat} (hlink : Cond.fieldLink own index "MadeCalls$Outcome" "offset" "I" ∈ xALL) (hdg : decode cc pc = .ok (.getfield index, 3)) (kk : W p l e R s m args below meth c H locs cells slots Q (F0 m (pc + 3) ls (.int (st.1 5 0 3) :: rest))) : W p l e R s m args below meth c H locs cells slots Q (F0 m pc ls (.ref (la 5 0) :: rest)) := w_get X hP (c0 := 5) (i0 := 0) rfl rfl rfl la_X4 3 (by decide) hlink rfl hdg kk
theorem pC_Outcome_offset (X : xCx D (VC mo) la cyI cyF cyM t0 p m c cc nL s args own) (hP : HW D (VC mo) la (ECf cyI cyF cyM mo la) st H) (hS : va_S (xA (VC mo) la) s.heap H locs) {v : Int32} {index : Nat} (hlink : Cond.fieldLink own index "MadeCalls$Outcome" "offset" "I" ∈ xALL) (hdg : decode cc pc = .ok (.putfield index, 3)) (kk : ∀ (H1 : Heap) (locs1 : List Loc), HW D (VC mo) la (ECf cyI cyF cyM mo la) (pI st 5 0 3 v) H1 → va_S (xA (VC mo) la) s.heap H1 locs1 → W p l e R s m args below meth c H1 locs1 cells slots Q (F0 m (pc + 3) ls rest)) : W p l e R s m args below meth c H locs cells slots Q (F0 m pc ls (.int v :: .ref (la 5 0) :: rest)) := w_putI X hP hS (c0 := 5) (i0 := 0) rfl rfl rfl la_X4 tyX4 tyX4_ok nmX4 3 (by decide) rfl (ty := .int) (by decide +kernel) rfl rfl (Nat.le_of_ble_eq_true rfl) rfl hlink hdg kk
theorem gC_Outcome_thrown (X : xCx D (VC mo) la cyI cyF cyM t0 p m c cc nL s args own) (hP : HW D (VC mo) la (ECf cyI cyF cyM mo la) st H) {index : Nat} (hlink : Cond.fieldLink own index "MadeCalls$Outcome" "thrown" "I" ∈ xALL) (hdg : decode cc pc = .ok (.getfield index, 3)) (kk : W p l e R s m args below meth c H locs cells slots Q (F0 m (pc + 3) ls (.int (st.1 5 0 4) :: rest))) : W p l e R s m args below meth c H locs cells slots Q (F0 m pc ls (.ref (la 5 0) :: rest)) := w_get X hP (c0 := 5) (i0 := 0) rfl rfl rfl la_X4 4 (by decide) hlink rfl hdg kk
theorem pC_Outcome_thrown (X : xCx D (VC mo) la cyI cyF cyM t0 p m c cc nL s args own) (hP : HW D (VC mo) la (ECf cyI cyF cyM mo la) st H) (hS : va_S (xA (VC mo) la) s.heap H locs) {v : Int32} {index : Nat} (hlink : Cond.fieldLink own index "MadeCalls$Outcome" "thrown" "I" ∈ xALL) (hdg : decode cc pc = .ok (.putfield index, 3)) (kk : ∀ (H1 : Heap) (locs1 : List Loc), HW D (VC mo) la (ECf cyI cyF cyM mo la) (pI st 5 0 4 v) H1 → va_S (xA (VC mo) la) s.heap H1 locs1 → W p l e R s m args below meth c H1 locs1 cells slots Q (F0 m (pc + 3) ls rest)) : W p l e R s m args below meth c H locs cells slots Q (F0 m pc ls (.int v :: .ref (la 5 0) :: rest)) := w_putI X hP hS (c0 := 5) (i0 := 0) rfl rfl rfl la_X4 tyX4 tyX4_ok nmX4 4 (by decide) rfl (ty := .int) (by decide +kernel) rfl rfl (Nat.le_of_ble_eq_true rfl) rfl hlink hdg kk
theorem gC_Runner_outcome (X : xCx D (VC mo) la cyI cyF cyM t0 p m c cc nL s args own) (hP : HW D (VC mo) la (ECf cyI cyF cyM mo la) st H) {index : Nat} (hlink : Cond.fieldLink own index "MadeCalls$Runner" "outcome" "LMadeCalls$Outcome;" ∈ xALL) (hdg : decode cc pc = .ok (.getfield index, 3)) (kk : W p l e R s m args below meth c H locs cells slots Q (F0 m (pc + 3) ls (.ref (la 5 0) :: rest))) : W p l e R s m args below meth c H locs cells slots Q (F0 m pc ls (.ref (la 6 0) :: rest)) := w_get X hP (c0 := 6) (i0 := 0) rfl rfl rfl la_X6 0 (by decide) hlink rfl hdg kk
theorem gC_Runner_builtIns (X : xCx D (VC mo) la cyI cyF cyM t0 p m c cc nL s args own) (hP : HW D (VC mo) la (ECf cyI cyF cyM mo la) st H) {index : Nat} (hlink : Cond.fieldLink own index "MadeCalls$Runner" "builtIns" "[I" ∈ xALL) (hdg : decode cc pc = .ok (.getfield index, 3)) (kk : W p l e R s m args below meth c H locs cells slots Q (F0 m (pc + 3) ls (.ref (la 20 4) :: rest))) : W p l e R s m args below meth c H locs cells slots Q (F0 m pc ls (.ref (la 6 0) :: rest)) := w_get X hP (c0 := 6) (i0 := 0) rfl rfl rfl la_X6 1 (by decide) hlink rfl hdg kk
theorem gC_Runner_memory (X : xCx D (VC mo) la cyI cyF cyM t0 p m c cc nL s args own) (hP : HW D (VC mo) la (ECf cyI cyF cyM mo la) st H) {index : Nat} (hlink : Cond.fieldLink own index "MadeCalls$Runner" "memory" "LMadeCalls$Memory;" ∈ xALL) (hdg : decode cc pc = .ok (.getfield index, 3)) (kk : W p l e R s m args below meth c H locs cells slots Q (F0 m (pc + 3) ls (.ref (la 4 0) :: rest))) : W p l e R s m args below meth c H locs cells slots Q (F0 m pc ls (.ref (la 6 0) :: rest)) := w_get X hP (c0 := 6) (i0 := 0) rfl rfl rfl la_X6 2 (by decide) hlink rfl hdg kk
theorem gC_Runner_shelf (X : xCx D (VC mo) la cyI cyF cyM t0 p m c cc nL s args own) (hP : HW D (VC mo) la (ECf cyI cyF cyM mo la) st H) {index : Nat} (hlink : Cond.fieldLink own index "MadeCalls$Runner" "shelf" "LMadeCalls$Shelf;" ∈ xALL) (hdg : decode cc pc = .ok (.getfield index, 3)) (kk : W p l e R s m args below meth c H locs cells slots Q (F0 m (pc + 3) ls (.ref (la 7 0) :: rest))) : W p l e R s m args below meth c H locs cells slots Q (F0 m pc ls (.ref (la 6 0) :: rest)) := w_get X hP (c0 := 6) (i0 := 0) rfl rfl rfl la_X6 3 (by decide) hlink rfl hdg kk
theorem gC_Runner_globals (X : xCx D (VC mo) la cyI cyF cyM t0 p m c cc nL s args own) (hP : HW D (VC mo) la (ECf cyI cyF cyM mo la) st H) {index : Nat} (hlink : Cond.fieldLink own index "MadeCalls$Runner" "globals" "[I" ∈ xALL) (hdg : decode cc pc = .ok (.getfield index, 3)) (kk : W p l e R s m args below meth c H locs cells slots Q (F0 m (pc + 3) ls (.ref (la 20 1) :: rest))) : W p l e R s m args below meth c H locs cells slots Q (F0 m pc ls (.ref (la 6 0) :: rest)) := w_get X hP (c0 := 6) (i0 := 0) rfl rfl rfl la_X6 4 (by decide) hlink rfl hdg kk
theorem gC_Runner_counts (X : xCx D (VC mo) la cyI cyF cyM t0 p m c cc nL s args own) (hP : HW D (VC mo) la (ECf cyI cyF cyM mo la) st H) {index : Nat} (hlink : Cond.fieldLink own index "MadeCalls$Runner" "counts" "[I" ∈ xALL) (hdg : decode cc pc = .ok (.getfield index, 3)) (kk : W p l e R s m args below meth c H locs cells slots Q (F0 m (pc + 3) ls (.ref (la 20 0) :: rest))) : W p l e R s m args below meth c H locs cells slots Q (F0 m pc ls (.ref (la 6 0) :: rest)) := w_get X hP (c0 := 6) (i0 := 0) rfl rfl rfl la_X6 5 (by decide) hlink rfl hdg kk
theorem gC_Runner_frames (X : xCx D (VC mo) la cyI cyF cyM t0 p m c cc nL s args own) (hP : HW D (VC mo) la (ECf cyI cyF cyM mo la) st H) {index : Nat} (hlink : Cond.fieldLink own index "MadeCalls$Runner" "frames" "[LMadeCalls$Frame;" ∈ xALL) (hdg : decode cc pc = .ok (.getfield index, 3)) (kk : W p l e R s m args below meth c H locs cells slots Q (F0 m (pc + 3) ls (.ref (la 23 0) :: rest))) : W p l e R s m args below meth c H locs cells slots Q (F0 m pc ls (.ref (la 6 0) :: rest)) := w_get X hP (c0 := 6) (i0 := 0) rfl rfl rfl la_X6 6 (by decide) hlink rfl hdg kk
theorem gC_Runner_handed (X : xCx D (VC mo) la cyI cyF cyM t0 p m c cc nL s args own) (hP : HW D (VC mo) la (ECf cyI cyF cyM mo la) st H) {index : Nat} (hlink : Cond.fieldLink own index "MadeCalls$Runner" "handed" "[I" ∈ xALL) (hdg : decode cc pc = .ok (.getfield index, 3)) (kk : W p l e R s m args below meth c H locs cells slots Q (F0 m (pc + 3) ls (.ref (la 20 5) :: rest))) : W p l e R s m args below meth c H locs cells slots Q (F0 m pc ls (.ref (la 6 0) :: rest)) := w_get X hP (c0 := 6) (i0 := 0) rfl rfl rfl la_X6 7 (by decide) hlink rfl hdg kk
theorem gC_Runner_walked (X : xCx D (VC mo) la cyI cyF cyM t0 p m c cc nL s args own) (hP : HW D (VC mo) la (ECf cyI cyF cyM mo la) st H) {index : Nat} (hlink : Cond.fieldLink own index "MadeCalls$Runner" "walked" "[I" ∈ xALL) (hdg : decode cc pc = .ok (.getfield index, 3)) (kk : W p l e R s m args below meth c H locs cells slots Q (F0 m (pc + 3) ls (.ref (la 20 6) :: rest))) : W p l e R s m args below meth c H locs cells slots Q (F0 m pc ls (.ref (la 6 0) :: rest)) := w_get X hP (c0 := 6) (i0 := 0) rfl rfl rfl la_X6 8 (by decide) hlink rfl hdg kk
theorem gC_Runner_usesMade (X : xCx D (VC mo) la cyI cyF cyM t0 p m c cc nL s args own) (hP : HW D (VC mo) la (ECf cyI cyF cyM mo la) st H) {index : Nat} (hlink : Cond.fieldLink own index "MadeCalls$Runner" "usesMade" "Z" ∈ xALL) (hdg : decode cc pc = .ok (.getfield index, 3)) (kk : W p l e R s m args below meth c H locs cells slots Q (F0 m (pc + 3) ls (.int (st.1 6 0 9) :: rest))) : W p l e R s m args below meth c H locs cells slots Q (F0 m pc ls (.ref (la 6 0) :: rest)) := w_get X hP (c0 := 6) (i0 := 0) rfl rfl rfl la_X6 9 (by decide) hlink rfl hdg kk
theorem pC_Runner_usesMade (X : xCx D (VC mo) la cyI cyF cyM t0 p m c cc nL s args own) (hP : HW D (VC mo) la (ECf cyI cyF cyM mo la) st H) (hS : va_S (xA (VC mo) la) s.heap H locs) {v : Int32} (hz : v = 0 ∨ v = 1) {index : Nat} (hlink : Cond.fieldLink own index "MadeCalls$Runner" "usesMade" "Z" ∈ xALL) (hdg : decode cc pc = .ok (.putfield index, 3)) (kk : ∀ (H1 : Heap) (locs1 : List Loc), HW D (VC mo) la (ECf cyI cyF cyM mo la) (pI st 6 0 9 v) H1 → va_S (xA (VC mo) la) s.heap H1 locs1 → W p l e R s m args below meth c H1 locs1 cells slots Q (F0 m (pc + 3) ls rest)) : W p l e R s m args below meth c H locs cells slots Q (F0 m pc ls (.int v :: .ref (la 6 0) :: rest)) := w_putI X hP hS (c0 := 6) (i0 := 0) rfl rfl rfl la_X6 tyX6 tyX6_ok nmX6 9 (by decide) rfl (ty := .boolean) (by decide +kernel) (by rcases hz with rfl | rfl <;> rfl) (by rcases hz with rfl | rfl <;> rfl) (Nat.le_of_ble_eq_true rfl) rfl hlink hdg kk
theorem gC_Runner_depth (X : xCx D (VC mo) la cyI cyF cyM t0 p m c cc nL s args own) (hP : HW D (VC mo) la (ECf cyI cyF cyM mo la) st H) {index : Nat} (hlink : Cond.fieldLink own index "MadeCalls$Runner" "depth" "I" ∈ xALL) (hdg : decode cc pc = .ok (.getfield index, 3)) (kk : W p l e R s m args below meth c H locs cells slots Q (F0 m (pc + 3) ls (.int (st.1 6 0 10) :: rest))) : W p l e R s m args below meth c H locs cells slots Q (F0 m pc ls (.ref (la 6 0) :: rest)) := w_get X hP (c0 := 6) (i0 := 0) rfl rfl rfl la_X6 10 (by decide) hlink rfl hdg kk
theorem pC_Runner_depth (X : xCx D (VC mo) la cyI cyF cyM t0 p m c cc nL s args own) (hP : HW D (VC mo) la (ECf cyI cyF cyM mo la) st H) (hS : va_S (xA (VC mo) la) s.heap H locs) {v : Int32} {index : Nat} (hlink : Cond.fieldLink own index "MadeCalls$Runner" "depth" "I" ∈ xALL) (hdg : decode cc pc = .ok (.putfield index, 3)) (kk : ∀ (H1 : Heap) (locs1 : List Loc), HW D (VC mo) la (ECf cyI cyF cyM mo la) (pI st 6 0 10 v) H1 → va_S (xA (VC mo) la) s.heap H1 locs1 → W p l e R s m args below meth c H1 locs1 cells slots Q (F0 m (pc + 3) ls rest)) : W p l e R s m args below meth c H locs cells slots Q (F0 m pc ls (.int v :: .ref (la 6 0) :: rest)) := w_putI X hP hS (c0 := 6) (i0 := 0) rfl rfl rfl la_X6 tyX6 tyX6_ok nmX6 10 (by decide) rfl (ty := .int) (by decide +kernel) rfl rfl (Nat.le_of_ble_eq_true rfl) rfl hlink hdg kk
theorem gC_Runner_steps (X : xCx D (VC mo) la cyI cyF cyM t0 p m c cc nL s args own) (hP : HW D (VC mo) la (ECf cyI cyF cyM mo la) st H) {index : Nat} (hlink : Cond.fieldLink own index "MadeCalls$Runner" "steps" "I" ∈ xALL) (hdg : decode cc pc = .ok (.getfield index, 3)) (kk : W p l e R s m args below meth c H locs cells slots Q (F0 m (pc + 3) ls (.int (st.1 6 0 11) :: rest))) : W p l e R s m args below meth c H locs cells slots Q (F0 m pc ls (.ref (la 6 0) :: rest)) := w_get X hP (c0 := 6) (i0 := 0) rfl rfl rfl la_X6 11 (by decide) hlink rfl hdg kk
theorem pC_Runner_steps (X : xCx D (VC mo) la cyI cyF cyM t0 p m c cc nL s args own) (hP : HW D (VC mo) la (ECf cyI cyF cyM mo la) st H) (hS : va_S (xA (VC mo) la) s.heap H locs) {v : Int32} {index : Nat} (hlink : Cond.fieldLink own index "MadeCalls$Runner" "steps" "I" ∈ xALL) (hdg : decode cc pc = .ok (.putfield index, 3)) (kk : ∀ (H1 : Heap) (locs1 : List Loc), HW D (VC mo) la (ECf cyI cyF cyM mo la) (pI st 6 0 11 v) H1 → va_S (xA (VC mo) la) s.heap H1 locs1 → W p l e R s m args below meth c H1 locs1 cells slots Q (F0 m (pc + 3) ls rest)) : W p l e R s m args below meth c H locs cells slots Q (F0 m pc ls (.int v :: .ref (la 6 0) :: rest)) := w_putI X hP hS (c0 := 6) (i0 := 0) rfl rfl rfl la_X6 tyX6 tyX6_ok nmX6 11 (by decide) rfl (ty := .int) (by decide +kernel) rfl rfl (Nat.le_of_ble_eq_true rfl) rfl hlink hdg kk
theorem gC_Runner_rows (X : xCx D (VC mo) la cyI cyF cyM t0 p m c cc nL s args own) (hP : HW D (VC mo) la (ECf cyI cyF cyM mo la) st H) {index : Nat} (hlink : Cond.fieldLink own index "MadeCalls$Runner" "rows" "[I" ∈ xALL) (hdg : decode cc pc = .ok (.getfield index, 3)) (kk : W p l e R s m args below meth c H locs cells slots Q (F0 m (pc + 3) ls (.ref (la (rwC (st.2 2 0)) (rwI mo (st.2 2 0))) :: rest))) : W p l e R s m args below meth c H locs cells slots Q (F0 m pc ls (.ref (la 6 0) :: rest)) := w_get X hP (c0 := 6) (i0 := 0) rfl rfl rfl la_X6 12 (by decide) hlink rfl hdg kk
theorem gC_Runner_base (X : xCx D (VC mo) la cyI cyF cyM t0 p m c cc nL s args own) (hP : HW D (VC mo) la (ECf cyI cyF cyM mo la) st H) {index : Nat} (hlink : Cond.fieldLink own index "MadeCalls$Runner" "base" "I" ∈ xALL) (hdg : decode cc pc = .ok (.getfield index, 3)) (kk : W p l e R s m args below meth c H locs cells slots Q (F0 m (pc + 3) ls (.int (st.1 6 0 13) :: rest))) : W p l e R s m args below meth c H locs cells slots Q (F0 m pc ls (.ref (la 6 0) :: rest)) := w_get X hP (c0 := 6) (i0 := 0) rfl rfl rfl la_X6 13 (by decide) hlink rfl hdg kk
theorem pC_Runner_base (X : xCx D (VC mo) la cyI cyF cyM t0 p m c cc nL s args own) (hP : HW D (VC mo) la (ECf cyI cyF cyM mo la) st H) (hS : va_S (xA (VC mo) la) s.heap H locs) {v : Int32} {index : Nat} (hlink : Cond.fieldLink own index "MadeCalls$Runner" "base" "I" ∈ xALL) (hdg : decode cc pc = .ok (.putfield index, 3)) (kk : ∀ (H1 : Heap) (locs1 : List Loc), HW D (VC mo) la (ECf cyI cyF cyM mo la) (pI st 6 0 13 v) H1 → va_S (xA (VC mo) la) s.heap H1 locs1 → W p l e R s m args below meth c H1 locs1 cells slots Q (F0 m (pc + 3) ls rest)) : W p l e R s m args below meth c H locs cells slots Q (F0 m pc ls (.int v :: .ref (la 6 0) :: rest)) := w_putI X hP hS (c0 := 6) (i0 := 0) rfl rfl rfl la_X6 tyX6 tyX6_ok nmX6 13 (by decide) rfl (ty := .int) (by decide +kernel) rfl rfl (Nat.le_of_ble_eq_true rfl) rfl hlink hdg kk
theorem gC_Runner_atAddress (X : xCx D (VC mo) la cyI cyF cyM t0 p m c cc nL s args own) (hP : HW D (VC mo) la (ECf cyI cyF cyM mo la) st H) {index : Nat} (hlink : Cond.fieldLink own index "MadeCalls$Runner" "atAddress" "I" ∈ xALL) (hdg : decode cc pc = .ok (.getfield index, 3)) (kk : W p l e R s m args below meth c H locs cells slots Q (F0 m (pc + 3) ls (.int (st.1 6 0 14) :: rest))) : W p l e R s m args below meth c H locs cells slots Q (F0 m pc ls (.ref (la 6 0) :: rest)) := w_get X hP (c0 := 6) (i0 := 0) rfl rfl rfl la_X6 14 (by decide) hlink rfl hdg kk
theorem pC_Runner_atAddress (X : xCx D (VC mo) la cyI cyF cyM t0 p m c cc nL s args own) (hP : HW D (VC mo) la (ECf cyI cyF cyM mo la) st H) (hS : va_S (xA (VC mo) la) s.heap H locs) {v : Int32} {index : Nat} (hlink : Cond.fieldLink own index "MadeCalls$Runner" "atAddress" "I" ∈ xALL) (hdg : decode cc pc = .ok (.putfield index, 3)) (kk : ∀ (H1 : Heap) (locs1 : List Loc), HW D (VC mo) la (ECf cyI cyF cyM mo la) (pI st 6 0 14 v) H1 → va_S (xA (VC mo) la) s.heap H1 locs1 → W p l e R s m args below meth c H1 locs1 cells slots Q (F0 m (pc + 3) ls rest)) : W p l e R s m args below meth c H locs cells slots Q (F0 m pc ls (.int v :: .ref (la 6 0) :: rest)) := w_putI X hP hS (c0 := 6) (i0 := 0) rfl rfl rfl la_X6 tyX6 tyX6_ok nmX6 14 (by decide) rfl (ty := .int) (by decide +kernel) rfl rfl (Nat.le_of_ble_eq_true rfl) rfl hlink hdg kk
theorem gC_Runner_atOffset (X : xCx D (VC mo) la cyI cyF cyM t0 p m c cc nL s args own) (hP : HW D (VC mo) la (ECf cyI cyF cyM mo la) st H) {index : Nat} (hlink : Cond.fieldLink own index "MadeCalls$Runner" "atOffset" "I" ∈ xALL) (hdg : decode cc pc = .ok (.getfield index, 3)) (kk : W p l e R s m args below meth c H locs cells slots Q (F0 m (pc + 3) ls (.int (st.1 6 0 15) :: rest))) : W p l e R s m args below meth c H locs cells slots Q (F0 m pc ls (.ref (la 6 0) :: rest)) := w_get X hP (c0 := 6) (i0 := 0) rfl rfl rfl la_X6 15 (by decide) hlink rfl hdg kk
theorem pC_Runner_atOffset (X : xCx D (VC mo) la cyI cyF cyM t0 p m c cc nL s args own) (hP : HW D (VC mo) la (ECf cyI cyF cyM mo la) st H) (hS : va_S (xA (VC mo) la) s.heap H locs) {v : Int32} {index : Nat} (hlink : Cond.fieldLink own index "MadeCalls$Runner" "atOffset" "I" ∈ xALL) (hdg : decode cc pc = .ok (.putfield index, 3)) (kk : ∀ (H1 : Heap) (locs1 : List Loc), HW D (VC mo) la (ECf cyI cyF cyM mo la) (pI st 6 0 15 v) H1 → va_S (xA (VC mo) la) s.heap H1 locs1 → W p l e R s m args below meth c H1 locs1 cells slots Q (F0 m (pc + 3) ls rest)) : W p l e R s m args below meth c H locs cells slots Q (F0 m pc ls (.int v :: .ref (la 6 0) :: rest)) := w_putI X hP hS (c0 := 6) (i0 := 0) rfl rfl rfl la_X6 tyX6 tyX6_ok nmX6 15 (by decide) rfl (ty := .int) (by decide +kernel) rfl rfl (Nat.le_of_ble_eq_true rfl) rfl hlink hdg kk
theorem gC_Shelf_most (X : xCx D (VC mo) la cyI cyF cyM t0 p m c cc nL s args own) (hP : HW D (VC mo) la (ECf cyI cyF cyM mo la) st H) {index : Nat} (hlink : Cond.fieldLink own index "MadeCalls$Shelf" "most" "I" ∈ xALL) (hdg : decode cc pc = .ok (.getfield index, 3)) (kk : W p l e R s m args below meth c H locs cells slots Q (F0 m (pc + 3) ls (.int (st.1 7 0 0) :: rest))) : W p l e R s m args below meth c H locs cells slots Q (F0 m pc ls (.ref (la 7 0) :: rest)) := w_get X hP (c0 := 7) (i0 := 0) rfl rfl rfl la_X7 0 (by decide) hlink rfl hdg kk
theorem gC_Shelf_all (X : xCx D (VC mo) la cyI cyF cyM t0 p m c cc nL s args own) (hP : HW D (VC mo) la (ECf cyI cyF cyM mo la) st H) {index : Nat} (hlink : Cond.fieldLink own index "MadeCalls$Shelf" "all" "[LMadeCalls$Made;" ∈ xALL) (hdg : decode cc pc = .ok (.getfield index, 3)) (kk : W p l e R s m args below meth c H locs cells slots Q (F0 m (pc + 3) ls (.ref (la 24 0) :: rest))) : W p l e R s m args below meth c H locs cells slots Q (F0 m pc ls (.ref (la 7 0) :: rest)) := w_get X hP (c0 := 7) (i0 := 0) rfl rfl rfl la_X7 1 (by decide) hlink rfl hdg kk
theorem gC_Shelf_counts (X : xCx D (VC mo) la cyI cyF cyM t0 p m c cc nL s args own) (hP : HW D (VC mo) la (ECf cyI cyF cyM mo la) st H) {index : Nat} (hlink : Cond.fieldLink own index "MadeCalls$Shelf" "counts" "[I" ∈ xALL) (hdg : decode cc pc = .ok (.getfield index, 3)) (kk : W p l e R s m args below meth c H locs cells slots Q (F0 m (pc + 3) ls (.ref (la 20 0) :: rest))) : W p l e R s m args below meth c H locs cells slots Q (F0 m pc ls (.ref (la 7 0) :: rest)) := w_get X hP (c0 := 7) (i0 := 0) rfl rfl rfl la_X7 2 (by decide) hlink rfl hdg kk
theorem gC_Shelf_size (X : xCx D (VC mo) la cyI cyF cyM t0 p m c cc nL s args own) (hP : HW D (VC mo) la (ECf cyI cyF cyM mo la) st H) {index : Nat} (hlink : Cond.fieldLink own index "MadeCalls$Shelf" "size" "I" ∈ xALL) (hdg : decode cc pc = .ok (.getfield index, 3)) (kk : W p l e R s m args below meth c H locs cells slots Q (F0 m (pc + 3) ls (.int (st.1 7 0 3) :: rest))) : W p l e R s m args below meth c H locs cells slots Q (F0 m pc ls (.ref (la 7 0) :: rest)) := w_get X hP (c0 := 7) (i0 := 0) rfl rfl rfl la_X7 3 (by decide) hlink rfl hdg kk
theorem pC_Shelf_size (X : xCx D (VC mo) la cyI cyF cyM t0 p m c cc nL s args own) (hP : HW D (VC mo) la (ECf cyI cyF cyM mo la) st H) (hS : va_S (xA (VC mo) la) s.heap H locs) {v : Int32} {index : Nat} (hlink : Cond.fieldLink own index "MadeCalls$Shelf" "size" "I" ∈ xALL) (hdg : decode cc pc = .ok (.putfield index, 3)) (kk : ∀ (H1 : Heap) (locs1 : List Loc), HW D (VC mo) la (ECf cyI cyF cyM mo la) (pI st 7 0 3 v) H1 → va_S (xA (VC mo) la) s.heap H1 locs1 → W p l e R s m args below meth c H1 locs1 cells slots Q (F0 m (pc + 3) ls rest)) : W p l e R s m args below meth c H locs cells slots Q (F0 m pc ls (.int v :: .ref (la 7 0) :: rest)) := w_putI X hP hS (c0 := 7) (i0 := 0) rfl rfl rfl la_X7 tyX7 tyX7_ok nmX7 3 (by decide) rfl (ty := .int) (by decide +kernel) rfl rfl (Nat.le_of_ble_eq_true rfl) rfl hlink hdg kk
theorem gC_MadeCalls_counts (X : xCx D (VC mo) la cyI cyF cyM t0 p m c cc nL s args own) (hP : HW D (VC mo) la (ECf cyI cyF cyM mo la) st H) {index : Nat} (hlink : Cond.fieldLink own index "MadeCalls" "counts" "[I" ∈ xALL) (hdg : decode cc pc = .ok (.getfield index, 3)) (kk : W p l e R s m args below meth c H locs cells slots Q (F0 m (pc + 3) ls (.ref (la 20 0) :: rest))) : W p l e R s m args below meth c H locs cells slots Q (F0 m pc ls (.ref (la 8 0) :: rest)) := w_get X hP (c0 := 8) (i0 := 0) rfl rfl rfl la_X8 0 (by decide) hlink rfl hdg kk
theorem gC_MadeCalls_globals (X : xCx D (VC mo) la cyI cyF cyM t0 p m c cc nL s args own) (hP : HW D (VC mo) la (ECf cyI cyF cyM mo la) st H) {index : Nat} (hlink : Cond.fieldLink own index "MadeCalls" "globals" "[I" ∈ xALL) (hdg : decode cc pc = .ok (.getfield index, 3)) (kk : W p l e R s m args below meth c H locs cells slots Q (F0 m (pc + 3) ls (.ref (la 20 1) :: rest))) : W p l e R s m args below meth c H locs cells slots Q (F0 m pc ls (.ref (la 8 0) :: rest)) := w_get X hP (c0 := 8) (i0 := 0) rfl rfl rfl la_X8 1 (by decide) hlink rfl hdg kk
theorem gC_MadeCalls_arguments (X : xCx D (VC mo) la cyI cyF cyM t0 p m c cc nL s args own) (hP : HW D (VC mo) la (ECf cyI cyF cyM mo la) st H) {index : Nat} (hlink : Cond.fieldLink own index "MadeCalls" "arguments" "[I" ∈ xALL) (hdg : decode cc pc = .ok (.getfield index, 3)) (kk : W p l e R s m args below meth c H locs cells slots Q (F0 m (pc + 3) ls (.ref (la 20 2) :: rest))) : W p l e R s m args below meth c H locs cells slots Q (F0 m pc ls (.ref (la 8 0) :: rest)) := w_get X hP (c0 := 8) (i0 := 0) rfl rfl rfl la_X8 2 (by decide) hlink rfl hdg kk
theorem gC_MadeCalls_shelf (X : xCx D (VC mo) la cyI cyF cyM t0 p m c cc nL s args own) (hP : HW D (VC mo) la (ECf cyI cyF cyM mo la) st H) {index : Nat} (hlink : Cond.fieldLink own index "MadeCalls" "shelf" "LMadeCalls$Shelf;" ∈ xALL) (hdg : decode cc pc = .ok (.getfield index, 3)) (kk : W p l e R s m args below meth c H locs cells slots Q (F0 m (pc + 3) ls (.ref (la 7 0) :: rest))) : W p l e R s m args below meth c H locs cells slots Q (F0 m pc ls (.ref (la 8 0) :: rest)) := w_get X hP (c0 := 8) (i0 := 0) rfl rfl rfl la_X8 3 (by decide) hlink rfl hdg kk
theorem gC_MadeCalls_memory (X : xCx D (VC mo) la cyI cyF cyM t0 p m c cc nL s args own) (hP : HW D (VC mo) la (ECf cyI cyF cyM mo la) st H) {index : Nat} (hlink : Cond.fieldLink own index "MadeCalls" "memory" "LMadeCalls$Memory;" ∈ xALL) (hdg : decode cc pc = .ok (.getfield index, 3)) (kk : W p l e R s m args below meth c H locs cells slots Q (F0 m (pc + 3) ls (.ref (la 4 0) :: rest))) : W p l e R s m args below meth c H locs cells slots Q (F0 m pc ls (.ref (la 8 0) :: rest)) := w_get X hP (c0 := 8) (i0 := 0) rfl rfl rfl la_X8 4 (by decide) hlink rfl hdg kk
theorem gC_MadeCalls_runner (X : xCx D (VC mo) la cyI cyF cyM t0 p m c cc nL s args own) (hP : HW D (VC mo) la (ECf cyI cyF cyM mo la) st H) {index : Nat} (hlink : Cond.fieldLink own index "MadeCalls" "runner" "LMadeCalls$Runner;" ∈ xALL) (hdg : decode cc pc = .ok (.getfield index, 3)) (kk : W p l e R s m args below meth c H locs cells slots Q (F0 m (pc + 3) ls (.ref (la 6 0) :: rest))) : W p l e R s m args below meth c H locs cells slots Q (F0 m pc ls (.ref (la 8 0) :: rest)) := w_get X hP (c0 := 8) (i0 := 0) rfl rfl rfl la_X8 5 (by decide) hlink rfl hdg kk
theorem gC_MadeCalls_unmakable (X : xCx D (VC mo) la cyI cyF cyM t0 p m c cc nL s args own) (hP : HW D (VC mo) la (ECf cyI cyF cyM mo la) st H) {index : Nat} (hlink : Cond.fieldLink own index "MadeCalls" "unmakable" "I" ∈ xALL) (hdg : decode cc pc = .ok (.getfield index, 3)) (kk : W p l e R s m args below meth c H locs cells slots Q (F0 m (pc + 3) ls (.int (st.1 8 0 6) :: rest))) : W p l e R s m args below meth c H locs cells slots Q (F0 m pc ls (.ref (la 8 0) :: rest)) := w_get X hP (c0 := 8) (i0 := 0) rfl rfl rfl la_X8 6 (by decide) hlink rfl hdg kk
theorem pC_MadeCalls_unmakable (X : xCx D (VC mo) la cyI cyF cyM t0 p m c cc nL s args own) (hP : HW D (VC mo) la (ECf cyI cyF cyM mo la) st H) (hS : va_S (xA (VC mo) la) s.heap H locs) {v : Int32} {index : Nat} (hlink : Cond.fieldLink own index "MadeCalls" "unmakable" "I" ∈ xALL) (hdg : decode cc pc = .ok (.putfield index, 3)) (kk : ∀ (H1 : Heap) (locs1 : List Loc), HW D (VC mo) la (ECf cyI cyF cyM mo la) (pI st 8 0 6 v) H1 → va_S (xA (VC mo) la) s.heap H1 locs1 → W p l e R s m args below meth c H1 locs1 cells slots Q (F0 m (pc + 3) ls rest)) : W p l e R s m args below meth c H locs cells slots Q (F0 m pc ls (.int v :: .ref (la 8 0) :: rest)) := w_putI X hP hS (c0 := 8) (i0 := 0) rfl rfl rfl la_X8 tyX8 tyX8_ok nmX8 6 (by decide) rfl (ty := .int) (by decide +kernel) rfl rfl (Nat.le_of_ble_eq_true rfl) rfl hlink hdg kk
theorem pC_Frame_made (X : xCx D (VC mo) la cyI cyF cyM t0 p m c cc nL s args own) (hP : HW D (VC mo) la (ECf cyI cyF cyM mo la) st H) (hS : va_S (xA (VC mo) la) s.heap H locs) {i : Nat} (hV : VC mo 2 i) {k : Nat} {index : Nat} (hlink : Cond.fieldLink own index "MadeCalls$Frame" "made" "LMadeCalls$Made;" ∈ xALL) (hdg : decode cc pc = .ok (.putfield index, 3)) (kk : ∀ (H1 : Heap) (locs1 : List Loc), HW D (VC mo) la (ECf cyI cyF cyM mo la) (pQ st 1 i k) H1 → va_S (xA (VC mo) la) s.heap H1 locs1 → W p l e R s m args below meth c H1 locs1 cells slots Q (F0 m (pc + 3) ls rest)) : W p l e R s m args below meth c H locs cells slots Q (F0 m pc ls (va_rf (mrf la mo k) :: .ref (la 2 i) :: rest)) := by
  refine x_put (E := fun c i => ECf cyI cyF cyM mo la (st.1 c i) st.2 c i) (c0 := 2) (i0 := i) X.1.1 X.1.2.1 X.1.2.2.2.2 la_X1 tyX1 tyX1_ok nmX1 X.1.2.2.2.1 X.2.2.1 hP X.2.1 hS hV (xA_of hV) rfl rfl 4 (by decide) (X.1.2.2.2.2 _ hlink) rfl (ty := .object "MadeCalls$Made") (by decide +kernel) ?_ ?_ (Nat.le_of_ble_eq_true rfl) hdg (fun H1 locs1 h hs => kk H1 locs1 (h.to (fun c' i' _ => ?_)) hs)
  · rcases mrf_or (la := la) (mo := mo) (k := k) with h | ⟨a, h⟩ <;> rw [h] <;> rfl
  · rcases mrf_or (la := la) (mo := mo) (k := k) with h | ⟨a, h⟩ <;> rw [h] <;> rfl
  · unfold xU pQ
    by_cases hc : c' = 2 ∧ i' = i
    · rw [if_pos hc, hc.1, hc.2]
      simp [ECf]
    · rw [if_neg hc]
      unfold ECf
      split <;> simp_all
theorem pC_Runner_rows (X : xCx D (VC mo) la cyI cyF cyM t0 p m c cc nL s args own) (hP : HW D (VC mo) la (ECf cyI cyF cyM mo la) st H) (hS : va_S (xA (VC mo) la) s.heap H locs) {k : Nat} {index : Nat} (hlink : Cond.fieldLink own index "MadeCalls$Runner" "rows" "[I" ∈ xALL) (hdg : decode cc pc = .ok (.putfield index, 3)) (kk : ∀ (H1 : Heap) (locs1 : List Loc), HW D (VC mo) la (ECf cyI cyF cyM mo la) (pQ st 2 0 k) H1 → va_S (xA (VC mo) la) s.heap H1 locs1 → W p l e R s m args below meth c H1 locs1 cells slots Q (F0 m (pc + 3) ls rest)) : W p l e R s m args below meth c H locs cells slots Q (F0 m pc ls (.ref (la (rwC k) (rwI mo k)) :: .ref (la 6 0) :: rest)) := by
  refine x_put (E := fun c i => ECf cyI cyF cyM mo la (st.1 c i) st.2 c i) (c0 := 6) (i0 := 0) X.1.1 X.1.2.1 X.1.2.2.2.2 la_X6 tyX6 tyX6_ok nmX6 X.1.2.2.2.1 X.2.2.1 hP X.2.1 hS rfl (xA_of (V := VC mo) rfl) rfl rfl 12 (by decide) (X.1.2.2.2.2 _ hlink) rfl (ty := .array .int) (by decide +kernel) rfl rfl (Nat.le_of_ble_eq_true rfl) hdg (fun H1 locs1 h hs => kk H1 locs1 (h.to (fun c' i' hv => ?_)) hs)
  unfold xU pQ
  by_cases hc : c' = 6 ∧ i' = 0
  · rw [if_pos hc, hc.1, hc.2]
    simp [ECf]
  · rw [if_neg hc]
    have h6 : ¬ c' = 6 := fun z => hc ⟨z, by rw [z] at hv; exact hv⟩
    unfold ECf
    split <;> simp_all
theorem gC_all (X : xCx D (VC mo) la cyI cyF cyM t0 p m c cc nL s args own) (hP : HW D (VC mo) la (ECf cyI cyF cyM mo la) st H) {i : Int32} (hin : ¬ (i < 0 ∨ mo + 1 ≤ i.toNatClampNeg)) (hdg : decode cc pc = .ok (.aaload, 1)) (kk : W p l e R s m args below meth c H locs cells slots Q (F0 m (pc + 1) ls (.ref (la 3 (min (st.2 0 i.toNatClampNeg) mo)) :: rest))) : W p l e R s m args below meth c H locs cells slots Q (F0 m pc ls (.int i :: .ref (la 24 0) :: rest)) :=
  x_aald (E := fun c i => ECf cyI cyF cyM mo la (st.1 c i) st.2 c i) (c0 := 24) (i0 := 0) X.1.1 X.1.2.1 X.2.2.1 hP 2 rfl rfl rfl hin hdg kk
theorem gC_frames (X : xCx D (VC mo) la cyI cyF cyM t0 p m c cc nL s args own) (hP : HW D (VC mo) la (ECf cyI cyF cyM mo la) st H) {i : Int32} (hin : ¬ (i < 0 ∨ 12 ≤ i.toNatClampNeg)) (hdg : decode cc pc = .ok (.aaload, 1)) (kk : W p l e R s m args below meth c H locs cells slots Q (F0 m (pc + 1) ls (.ref (la 2 i.toNatClampNeg) :: rest))) : W p l e R s m args below meth c H locs cells slots Q (F0 m pc ls (.int i :: .ref (la 23 0) :: rest)) :=
  x_aald (E := fun c i => ECf cyI cyF cyM mo la (st.1 c i) st.2 c i) (c0 := 23) (i0 := 0) X.1.1 X.1.2.1 X.2.2.1 hP 1 rfl rfl rfl hin hdg kk
theorem pC_all (X : xCx D (VC mo) la cyI cyF cyM t0 p m c cc nL s args own) (hP : HW D (VC mo) la (ECf cyI cyF cyM mo la) st H) (hS : va_S (xA (VC mo) la) s.heap H locs) {i : Int32} {k : Nat} (hk : k ≤ mo) (hin : ¬ (i < 0 ∨ mo + 1 ≤ i.toNatClampNeg)) (hdg : decode cc pc = .ok (.aastore, 1)) (kk : ∀ (H1 : Heap) (locs1 : List Loc), HW D (VC mo) la (ECf cyI cyF cyM mo la) (pQ st 0 i.toNatClampNeg k) H1 → va_S (xA (VC mo) la) s.heap H1 locs1 → W p l e R s m args below meth c H1 locs1 cells slots Q (F0 m (pc + 1) ls rest)) : W p l e R s m args below meth c H locs cells slots Q (F0 m pc ls (.ref (la 3 k) :: .int i :: .ref (la 24 0) :: rest)) := by
  refine x_aast (E := fun c i => ECf cyI cyF cyM mo la (st.1 c i) st.2 c i) (c0 := 24) (i0 := 0) (c1 := 3) (i1 := k) (r := (RX2, TX2, 6)) X.1.1 X.1.2.1 X.2.2.1 hP X.2.1 hS 2 3 rfl (xA_of (V := VC mo) rfl) hk rfl rfl rfl rfl hin hdg (fun H1 locs1 h hs => kk H1 locs1 (h.to (fun c' i' hv => ?_)) hs)
  unfold xU pQ
  by_cases hc : c' = 24 ∧ i' = 0
  · rw [if_pos hc, hc.1, hc.2]
    simp only [ECf, true_and]
    congr 7
    funext j
    unfold va_up
    by_cases hj : j = i.toNatClampNeg
    · simp [hj, Nat.min_eq_left hk]
    · simp [hj]
  · rw [if_neg hc]
    have h6 : ¬ c' = 24 := fun z => hc ⟨z, by rw [z] at hv; exact hv⟩
    unfold ECf
    split <;> simp_all
theorem w_ifnull {k : Nat} (hx : p.tables.exec = Jvm.exec) (hb : c.code = cc) {off : Int} {tgt : Nat} (hdg : decode cc pc = .ok (.ifnull off, 3)) (ht : (pc : Int) + off = (tgt : Int)) (kt : k = 0 → W p l e R s m args below meth c H locs cells slots Q (F0 m tgt ls rest)) (kf : ¬ k = 0 → W p l e R s m args below meth c H locs cells slots Q (F0 m (pc + 3) ls rest)) : W p l e R s m args below meth c H locs cells slots Q (F0 m pc ls (va_rf (mrf la mo k) :: rest)) := by
  by_cases h : k = 0
  · rw [mrf_0 h]; exact lv_ifnullN hx hb hdg ht (kt h)
  · rw [mrf_p h]; exact lv_ifnull hx hb hdg (kf h)
theorem w_ifnonnull {k : Nat} (hx : p.tables.exec = Jvm.exec) (hb : c.code = cc) {off : Int} {tgt : Nat} (hdg : decode cc pc = .ok (.ifnonnull off, 3)) (ht : (pc : Int) + off = (tgt : Int)) (kt : ¬ k = 0 → W p l e R s m args below meth c H locs cells slots Q (F0 m tgt ls rest)) (kf : k = 0 → W p l e R s m args below meth c H locs cells slots Q (F0 m (pc + 3) ls rest)) : W p l e R s m args below meth c H locs cells slots Q (F0 m pc ls (va_rf (mrf la mo k) :: rest)) := by
  by_cases h : k = 0
  · rw [mrf_0 h]; exact lv_ifnonnullN hx hb hdg (kf h)
  · rw [mrf_p h]; exact lv_ifnonnull hx hb hdg ht (kt h)
end XC
end
section
/-! The reference's world: kind 9 the object, kind 30 its int arrays, each by its field's number. -/
def lenM (i : Nat) : Nat := match i with
  | 1 => 1024
  | 2 => 8
  | 3 => 4
  | 4 => 256
  | 7 => 21
  | 8 => 21
  | 9 => 21
  | 22 => 8
  | 25 => 61
  | 26 => 61
  | 31 => 12
  | 32 => 12
  | 33 => 12
  | 34 => 12
  | 35 => 12
  | 36 => 12
  | 37 => 96
  | 38 => 4
  | _ => 0
def VM (c i : Nat) : Prop := match c with
  | 9 => i = 0
  | 30 => 0 < lenM i
  | _ => False
def EMf (cyI : ClassId) (la : Nat → Nat → Nat) : xEf := fun g _ c i => match c with
  | 9 => .inr (9, [.int (g 0), .ref (la 30 1), .ref (la 30 2), .ref (la 30 3), .ref (la 30 4), .int (g 5), .int (g 6), .ref (la 30 7), .ref (la 30 8), .ref (la 30 9), .int (g 10), .int (g 11), .int (g 12), .int (g 13), .int (g 14), .int (g 15), .int (g 16), .int (g 17), .int (g 18), .int (g 19), .int (g 20), .int (g 21), .ref (la 30 22), .int (g 23), .int (g 24), .ref (la 30 25), .ref (la 30 26), .int (g 27), .int (g 28), .int (g 29), .int (g 30), .ref (la 30 31), .ref (la 30 32), .ref (la 30 33), .ref (la 30 34), .ref (la 30 35), .ref (la 30 36), .ref (la 30 37), .ref (la 30 38), .int (g 39), .int (g 40), .int (g 41), .int (g 42), .int (g 43), .int (g 44), .int (g 45), .int (g 46)])
  | 30 => .inl (cyI, lenM i, .inl g)
  | _ => .inr (0, [])
abbrev MetM (D : va_G) (cyI cyF cyM : ClassId) (la : Nat → Nat → Nat) (t0 : Nat) (l : Launch) := MetW D VM la (EMf cyI la) cyI cyF cyM t0 l
section XM
variable {p : Program} {l : Launch} {e : Env} {R : Room} {s : State} {m : MethodId} {args : Array Value} {below : List Frame} {meth : Method} {c : Code} {H : Heap} {locs : List Loc} {cells slots : Nat} {Q : State → Prop}
variable {cc : ByteArray} {nL pc : Nat} {ls : Array Slot} {rest : List Value} {D : va_G} {la : Nat → Nat → Nat} {cyI cyF cyM : ClassId} {t0 : Nat} {own : String} {st st' : xSt}
theorem gM_thrown (X : xCx D VM la cyI cyF cyM t0 p m c cc nL s args own) (hP : HW D VM la (EMf cyI la) st H) {index : Nat} (hlink : Cond.fieldLink own index "MadeCallsModel" "thrown" "I" ∈ xALL) (hdg : decode cc pc = .ok (.getfield index, 3)) (kk : W p l e R s m args below meth c H locs cells slots Q (F0 m (pc + 3) ls (.int (st.1 9 0 0) :: rest))) : W p l e R s m args below meth c H locs cells slots Q (F0 m pc ls (.ref (la 9 0) :: rest)) := w_get X hP (c0 := 9) (i0 := 0) rfl rfl rfl la_X9 0 (by decide) hlink rfl hdg kk
theorem pM_thrown (X : xCx D VM la cyI cyF cyM t0 p m c cc nL s args own) (hP : HW D VM la (EMf cyI la) st H) (hS : va_S (xA VM la) s.heap H locs) {v : Int32} {index : Nat} (hlink : Cond.fieldLink own index "MadeCallsModel" "thrown" "I" ∈ xALL) (hdg : decode cc pc = .ok (.putfield index, 3)) (kk : ∀ (H1 : Heap) (locs1 : List Loc), HW D VM la (EMf cyI la) (pI st 9 0 0 v) H1 → va_S (xA VM la) s.heap H1 locs1 → W p l e R s m args below meth c H1 locs1 cells slots Q (F0 m (pc + 3) ls rest)) : W p l e R s m args below meth c H locs cells slots Q (F0 m pc ls (.int v :: .ref (la 9 0) :: rest)) := w_putI X hP hS (c0 := 9) (i0 := 0) rfl rfl rfl la_X9 tyX9 tyX9_ok nmX9 0 (by decide) rfl (ty := .int) (by decide +kernel) rfl rfl (Nat.le_of_ble_eq_true rfl) rfl hlink hdg kk
theorem gM_memory (X : xCx D VM la cyI cyF cyM t0 p m c cc nL s args own) (hP : HW D VM la (EMf cyI la) st H) {index : Nat} (hlink : Cond.fieldLink own index "MadeCallsModel" "memory" "[I" ∈ xALL) (hdg : decode cc pc = .ok (.getfield index, 3)) (kk : W p l e R s m args below meth c H locs cells slots Q (F0 m (pc + 3) ls (.ref (la 30 1) :: rest))) : W p l e R s m args below meth c H locs cells slots Q (F0 m pc ls (.ref (la 9 0) :: rest)) := w_get X hP (c0 := 9) (i0 := 0) rfl rfl rfl la_X9 1 (by decide) hlink rfl hdg kk
theorem gM_globals (X : xCx D VM la cyI cyF cyM t0 p m c cc nL s args own) (hP : HW D VM la (EMf cyI la) st H) {index : Nat} (hlink : Cond.fieldLink own index "MadeCallsModel" "globals" "[I" ∈ xALL) (hdg : decode cc pc = .ok (.getfield index, 3)) (kk : W p l e R s m args below meth c H locs cells slots Q (F0 m (pc + 3) ls (.ref (la 30 2) :: rest))) : W p l e R s m args below meth c H locs cells slots Q (F0 m pc ls (.ref (la 9 0) :: rest)) := w_get X hP (c0 := 9) (i0 := 0) rfl rfl rfl la_X9 2 (by decide) hlink rfl hdg kk
theorem gM_arguments (X : xCx D VM la cyI cyF cyM t0 p m c cc nL s args own) (hP : HW D VM la (EMf cyI la) st H) {index : Nat} (hlink : Cond.fieldLink own index "MadeCallsModel" "arguments" "[I" ∈ xALL) (hdg : decode cc pc = .ok (.getfield index, 3)) (kk : W p l e R s m args below meth c H locs cells slots Q (F0 m (pc + 3) ls (.ref (la 30 3) :: rest))) : W p l e R s m args below meth c H locs cells slots Q (F0 m pc ls (.ref (la 9 0) :: rest)) := w_get X hP (c0 := 9) (i0 := 0) rfl rfl rfl la_X9 3 (by decide) hlink rfl hdg kk
theorem gM_accelerated (X : xCx D VM la cyI cyF cyM t0 p m c cc nL s args own) (hP : HW D VM la (EMf cyI la) st H) {index : Nat} (hlink : Cond.fieldLink own index "MadeCallsModel" "accelerated" "[I" ∈ xALL) (hdg : decode cc pc = .ok (.getfield index, 3)) (kk : W p l e R s m args below meth c H locs cells slots Q (F0 m (pc + 3) ls (.ref (la 30 4) :: rest))) : W p l e R s m args below meth c H locs cells slots Q (F0 m pc ls (.ref (la 9 0) :: rest)) := w_get X hP (c0 := 9) (i0 := 0) rfl rfl rfl la_X9 4 (by decide) hlink rfl hdg kk
theorem gM_most (X : xCx D VM la cyI cyF cyM t0 p m c cc nL s args own) (hP : HW D VM la (EMf cyI la) st H) {index : Nat} (hlink : Cond.fieldLink own index "MadeCallsModel" "most" "I" ∈ xALL) (hdg : decode cc pc = .ok (.getfield index, 3)) (kk : W p l e R s m args below meth c H locs cells slots Q (F0 m (pc + 3) ls (.int (st.1 9 0 5) :: rest))) : W p l e R s m args below meth c H locs cells slots Q (F0 m pc ls (.ref (la 9 0) :: rest)) := w_get X hP (c0 := 9) (i0 := 0) rfl rfl rfl la_X9 5 (by decide) hlink rfl hdg kk
theorem gM_kept (X : xCx D VM la cyI cyF cyM t0 p m c cc nL s args own) (hP : HW D VM la (EMf cyI la) st H) {index : Nat} (hlink : Cond.fieldLink own index "MadeCallsModel" "kept" "I" ∈ xALL) (hdg : decode cc pc = .ok (.getfield index, 3)) (kk : W p l e R s m args below meth c H locs cells slots Q (F0 m (pc + 3) ls (.int (st.1 9 0 6) :: rest))) : W p l e R s m args below meth c H locs cells slots Q (F0 m pc ls (.ref (la 9 0) :: rest)) := w_get X hP (c0 := 9) (i0 := 0) rfl rfl rfl la_X9 6 (by decide) hlink rfl hdg kk
theorem pM_kept (X : xCx D VM la cyI cyF cyM t0 p m c cc nL s args own) (hP : HW D VM la (EMf cyI la) st H) (hS : va_S (xA VM la) s.heap H locs) {v : Int32} {index : Nat} (hlink : Cond.fieldLink own index "MadeCallsModel" "kept" "I" ∈ xALL) (hdg : decode cc pc = .ok (.putfield index, 3)) (kk : ∀ (H1 : Heap) (locs1 : List Loc), HW D VM la (EMf cyI la) (pI st 9 0 6 v) H1 → va_S (xA VM la) s.heap H1 locs1 → W p l e R s m args below meth c H1 locs1 cells slots Q (F0 m (pc + 3) ls rest)) : W p l e R s m args below meth c H locs cells slots Q (F0 m pc ls (.int v :: .ref (la 9 0) :: rest)) := w_putI X hP hS (c0 := 9) (i0 := 0) rfl rfl rfl la_X9 tyX9 tyX9_ok nmX9 6 (by decide) rfl (ty := .int) (by decide +kernel) rfl rfl (Nat.le_of_ble_eq_true rfl) rfl hlink hdg kk
theorem gM_keptAddress (X : xCx D VM la cyI cyF cyM t0 p m c cc nL s args own) (hP : HW D VM la (EMf cyI la) st H) {index : Nat} (hlink : Cond.fieldLink own index "MadeCallsModel" "keptAddress" "[I" ∈ xALL) (hdg : decode cc pc = .ok (.getfield index, 3)) (kk : W p l e R s m args below meth c H locs cells slots Q (F0 m (pc + 3) ls (.ref (la 30 7) :: rest))) : W p l e R s m args below meth c H locs cells slots Q (F0 m pc ls (.ref (la 9 0) :: rest)) := w_get X hP (c0 := 9) (i0 := 0) rfl rfl rfl la_X9 7 (by decide) hlink rfl hdg kk
theorem gM_keptEnd (X : xCx D VM la cyI cyF cyM t0 p m c cc nL s args own) (hP : HW D VM la (EMf cyI la) st H) {index : Nat} (hlink : Cond.fieldLink own index "MadeCallsModel" "keptEnd" "[I" ∈ xALL) (hdg : decode cc pc = .ok (.getfield index, 3)) (kk : W p l e R s m args below meth c H locs cells slots Q (F0 m (pc + 3) ls (.ref (la 30 8) :: rest))) : W p l e R s m args below meth c H locs cells slots Q (F0 m pc ls (.ref (la 9 0) :: rest)) := w_get X hP (c0 := 9) (i0 := 0) rfl rfl rfl la_X9 8 (by decide) hlink rfl hdg kk
theorem gM_keptNumber (X : xCx D VM la cyI cyF cyM t0 p m c cc nL s args own) (hP : HW D VM la (EMf cyI la) st H) {index : Nat} (hlink : Cond.fieldLink own index "MadeCallsModel" "keptNumber" "[I" ∈ xALL) (hdg : decode cc pc = .ok (.getfield index, 3)) (kk : W p l e R s m args below meth c H locs cells slots Q (F0 m (pc + 3) ls (.ref (la 30 9) :: rest))) : W p l e R s m args below meth c H locs cells slots Q (F0 m pc ls (.ref (la 9 0) :: rest)) := w_get X hP (c0 := 9) (i0 := 0) rfl rfl rfl la_X9 9 (by decide) hlink rfl hdg kk
theorem gM_placeTold (X : xCx D VM la cyI cyF cyM t0 p m c cc nL s args own) (hP : HW D VM la (EMf cyI la) st H) {index : Nat} (hlink : Cond.fieldLink own index "MadeCallsModel" "placeTold" "I" ∈ xALL) (hdg : decode cc pc = .ok (.getfield index, 3)) (kk : W p l e R s m args below meth c H locs cells slots Q (F0 m (pc + 3) ls (.int (st.1 9 0 10) :: rest))) : W p l e R s m args below meth c H locs cells slots Q (F0 m pc ls (.ref (la 9 0) :: rest)) := w_get X hP (c0 := 9) (i0 := 0) rfl rfl rfl la_X9 10 (by decide) hlink rfl hdg kk
theorem pM_placeTold (X : xCx D VM la cyI cyF cyM t0 p m c cc nL s args own) (hP : HW D VM la (EMf cyI la) st H) (hS : va_S (xA VM la) s.heap H locs) {v : Int32} {index : Nat} (hlink : Cond.fieldLink own index "MadeCallsModel" "placeTold" "I" ∈ xALL) (hdg : decode cc pc = .ok (.putfield index, 3)) (kk : ∀ (H1 : Heap) (locs1 : List Loc), HW D VM la (EMf cyI la) (pI st 9 0 10 v) H1 → va_S (xA VM la) s.heap H1 locs1 → W p l e R s m args below meth c H1 locs1 cells slots Q (F0 m (pc + 3) ls rest)) : W p l e R s m args below meth c H locs cells slots Q (F0 m pc ls (.int v :: .ref (la 9 0) :: rest)) := w_putI X hP hS (c0 := 9) (i0 := 0) rfl rfl rfl la_X9 tyX9 tyX9_ok nmX9 10 (by decide) rfl (ty := .int) (by decide +kernel) rfl rfl (Nat.le_of_ble_eq_true rfl) rfl hlink hdg kk
theorem gM_made (X : xCx D VM la cyI cyF cyM t0 p m c cc nL s args own) (hP : HW D VM la (EMf cyI la) st H) {index : Nat} (hlink : Cond.fieldLink own index "MadeCallsModel" "made" "I" ∈ xALL) (hdg : decode cc pc = .ok (.getfield index, 3)) (kk : W p l e R s m args below meth c H locs cells slots Q (F0 m (pc + 3) ls (.int (st.1 9 0 11) :: rest))) : W p l e R s m args below meth c H locs cells slots Q (F0 m pc ls (.ref (la 9 0) :: rest)) := w_get X hP (c0 := 9) (i0 := 0) rfl rfl rfl la_X9 11 (by decide) hlink rfl hdg kk
theorem pM_made (X : xCx D VM la cyI cyF cyM t0 p m c cc nL s args own) (hP : HW D VM la (EMf cyI la) st H) (hS : va_S (xA VM la) s.heap H locs) {v : Int32} {index : Nat} (hlink : Cond.fieldLink own index "MadeCallsModel" "made" "I" ∈ xALL) (hdg : decode cc pc = .ok (.putfield index, 3)) (kk : ∀ (H1 : Heap) (locs1 : List Loc), HW D VM la (EMf cyI la) (pI st 9 0 11 v) H1 → va_S (xA VM la) s.heap H1 locs1 → W p l e R s m args below meth c H1 locs1 cells slots Q (F0 m (pc + 3) ls rest)) : W p l e R s m args below meth c H locs cells slots Q (F0 m pc ls (.int v :: .ref (la 9 0) :: rest)) := w_putI X hP hS (c0 := 9) (i0 := 0) rfl rfl rfl la_X9 tyX9 tyX9_ok nmX9 11 (by decide) rfl (ty := .int) (by decide +kernel) rfl rfl (Nat.le_of_ble_eq_true rfl) rfl hlink hdg kk
theorem gM_dropped (X : xCx D VM la cyI cyF cyM t0 p m c cc nL s args own) (hP : HW D VM la (EMf cyI la) st H) {index : Nat} (hlink : Cond.fieldLink own index "MadeCallsModel" "dropped" "I" ∈ xALL) (hdg : decode cc pc = .ok (.getfield index, 3)) (kk : W p l e R s m args below meth c H locs cells slots Q (F0 m (pc + 3) ls (.int (st.1 9 0 12) :: rest))) : W p l e R s m args below meth c H locs cells slots Q (F0 m pc ls (.ref (la 9 0) :: rest)) := w_get X hP (c0 := 9) (i0 := 0) rfl rfl rfl la_X9 12 (by decide) hlink rfl hdg kk
theorem pM_dropped (X : xCx D VM la cyI cyF cyM t0 p m c cc nL s args own) (hP : HW D VM la (EMf cyI la) st H) (hS : va_S (xA VM la) s.heap H locs) {v : Int32} {index : Nat} (hlink : Cond.fieldLink own index "MadeCallsModel" "dropped" "I" ∈ xALL) (hdg : decode cc pc = .ok (.putfield index, 3)) (kk : ∀ (H1 : Heap) (locs1 : List Loc), HW D VM la (EMf cyI la) (pI st 9 0 12 v) H1 → va_S (xA VM la) s.heap H1 locs1 → W p l e R s m args below meth c H1 locs1 cells slots Q (F0 m (pc + 3) ls rest)) : W p l e R s m args below meth c H locs cells slots Q (F0 m pc ls (.int v :: .ref (la 9 0) :: rest)) := w_putI X hP hS (c0 := 9) (i0 := 0) rfl rfl rfl la_X9 tyX9 tyX9_ok nmX9 12 (by decide) rfl (ty := .int) (by decide +kernel) rfl rfl (Nat.le_of_ble_eq_true rfl) rfl hlink hdg kk
theorem gM_stepsEver (X : xCx D VM la cyI cyF cyM t0 p m c cc nL s args own) (hP : HW D VM la (EMf cyI la) st H) {index : Nat} (hlink : Cond.fieldLink own index "MadeCallsModel" "stepsEver" "I" ∈ xALL) (hdg : decode cc pc = .ok (.getfield index, 3)) (kk : W p l e R s m args below meth c H locs cells slots Q (F0 m (pc + 3) ls (.int (st.1 9 0 13) :: rest))) : W p l e R s m args below meth c H locs cells slots Q (F0 m pc ls (.ref (la 9 0) :: rest)) := w_get X hP (c0 := 9) (i0 := 0) rfl rfl rfl la_X9 13 (by decide) hlink rfl hdg kk
theorem pM_stepsEver (X : xCx D VM la cyI cyF cyM t0 p m c cc nL s args own) (hP : HW D VM la (EMf cyI la) st H) (hS : va_S (xA VM la) s.heap H locs) {v : Int32} {index : Nat} (hlink : Cond.fieldLink own index "MadeCallsModel" "stepsEver" "I" ∈ xALL) (hdg : decode cc pc = .ok (.putfield index, 3)) (kk : ∀ (H1 : Heap) (locs1 : List Loc), HW D VM la (EMf cyI la) (pI st 9 0 13 v) H1 → va_S (xA VM la) s.heap H1 locs1 → W p l e R s m args below meth c H1 locs1 cells slots Q (F0 m (pc + 3) ls rest)) : W p l e R s m args below meth c H locs cells slots Q (F0 m pc ls (.int v :: .ref (la 9 0) :: rest)) := w_putI X hP hS (c0 := 9) (i0 := 0) rfl rfl rfl la_X9 tyX9 tyX9_ok nmX9 13 (by decide) rfl (ty := .int) (by decide +kernel) rfl rfl (Nat.le_of_ble_eq_true rfl) rfl hlink hdg kk
theorem gM_stepsMade (X : xCx D VM la cyI cyF cyM t0 p m c cc nL s args own) (hP : HW D VM la (EMf cyI la) st H) {index : Nat} (hlink : Cond.fieldLink own index "MadeCallsModel" "stepsMade" "I" ∈ xALL) (hdg : decode cc pc = .ok (.getfield index, 3)) (kk : W p l e R s m args below meth c H locs cells slots Q (F0 m (pc + 3) ls (.int (st.1 9 0 14) :: rest))) : W p l e R s m args below meth c H locs cells slots Q (F0 m pc ls (.ref (la 9 0) :: rest)) := w_get X hP (c0 := 9) (i0 := 0) rfl rfl rfl la_X9 14 (by decide) hlink rfl hdg kk
theorem pM_stepsMade (X : xCx D VM la cyI cyF cyM t0 p m c cc nL s args own) (hP : HW D VM la (EMf cyI la) st H) (hS : va_S (xA VM la) s.heap H locs) {v : Int32} {index : Nat} (hlink : Cond.fieldLink own index "MadeCallsModel" "stepsMade" "I" ∈ xALL) (hdg : decode cc pc = .ok (.putfield index, 3)) (kk : ∀ (H1 : Heap) (locs1 : List Loc), HW D VM la (EMf cyI la) (pI st 9 0 14 v) H1 → va_S (xA VM la) s.heap H1 locs1 → W p l e R s m args below meth c H1 locs1 cells slots Q (F0 m (pc + 3) ls rest)) : W p l e R s m args below meth c H locs cells slots Q (F0 m pc ls (.int v :: .ref (la 9 0) :: rest)) := w_putI X hP hS (c0 := 9) (i0 := 0) rfl rfl rfl la_X9 tyX9 tyX9_ok nmX9 14 (by decide) rfl (ty := .int) (by decide +kernel) rfl rfl (Nat.le_of_ble_eq_true rfl) rfl hlink hdg kk
theorem gM_callsEver (X : xCx D VM la cyI cyF cyM t0 p m c cc nL s args own) (hP : HW D VM la (EMf cyI la) st H) {index : Nat} (hlink : Cond.fieldLink own index "MadeCallsModel" "callsEver" "I" ∈ xALL) (hdg : decode cc pc = .ok (.getfield index, 3)) (kk : W p l e R s m args below meth c H locs cells slots Q (F0 m (pc + 3) ls (.int (st.1 9 0 15) :: rest))) : W p l e R s m args below meth c H locs cells slots Q (F0 m pc ls (.ref (la 9 0) :: rest)) := w_get X hP (c0 := 9) (i0 := 0) rfl rfl rfl la_X9 15 (by decide) hlink rfl hdg kk
theorem pM_callsEver (X : xCx D VM la cyI cyF cyM t0 p m c cc nL s args own) (hP : HW D VM la (EMf cyI la) st H) (hS : va_S (xA VM la) s.heap H locs) {v : Int32} {index : Nat} (hlink : Cond.fieldLink own index "MadeCallsModel" "callsEver" "I" ∈ xALL) (hdg : decode cc pc = .ok (.putfield index, 3)) (kk : ∀ (H1 : Heap) (locs1 : List Loc), HW D VM la (EMf cyI la) (pI st 9 0 15 v) H1 → va_S (xA VM la) s.heap H1 locs1 → W p l e R s m args below meth c H1 locs1 cells slots Q (F0 m (pc + 3) ls rest)) : W p l e R s m args below meth c H locs cells slots Q (F0 m pc ls (.int v :: .ref (la 9 0) :: rest)) := w_putI X hP hS (c0 := 9) (i0 := 0) rfl rfl rfl la_X9 tyX9 tyX9_ok nmX9 15 (by decide) rfl (ty := .int) (by decide +kernel) rfl rfl (Nat.le_of_ble_eq_true rfl) rfl hlink hdg kk
theorem gM_callsMade (X : xCx D VM la cyI cyF cyM t0 p m c cc nL s args own) (hP : HW D VM la (EMf cyI la) st H) {index : Nat} (hlink : Cond.fieldLink own index "MadeCallsModel" "callsMade" "I" ∈ xALL) (hdg : decode cc pc = .ok (.getfield index, 3)) (kk : W p l e R s m args below meth c H locs cells slots Q (F0 m (pc + 3) ls (.int (st.1 9 0 16) :: rest))) : W p l e R s m args below meth c H locs cells slots Q (F0 m pc ls (.ref (la 9 0) :: rest)) := w_get X hP (c0 := 9) (i0 := 0) rfl rfl rfl la_X9 16 (by decide) hlink rfl hdg kk
theorem pM_callsMade (X : xCx D VM la cyI cyF cyM t0 p m c cc nL s args own) (hP : HW D VM la (EMf cyI la) st H) (hS : va_S (xA VM la) s.heap H locs) {v : Int32} {index : Nat} (hlink : Cond.fieldLink own index "MadeCallsModel" "callsMade" "I" ∈ xALL) (hdg : decode cc pc = .ok (.putfield index, 3)) (kk : ∀ (H1 : Heap) (locs1 : List Loc), HW D VM la (EMf cyI la) (pI st 9 0 16 v) H1 → va_S (xA VM la) s.heap H1 locs1 → W p l e R s m args below meth c H1 locs1 cells slots Q (F0 m (pc + 3) ls rest)) : W p l e R s m args below meth c H locs cells slots Q (F0 m pc ls (.int v :: .ref (la 9 0) :: rest)) := w_putI X hP hS (c0 := 9) (i0 := 0) rfl rfl rfl la_X9 tyX9 tyX9_ok nmX9 16 (by decide) rfl (ty := .int) (by decide +kernel) rfl rfl (Nat.le_of_ble_eq_true rfl) rfl hlink hdg kk
theorem gM_faults (X : xCx D VM la cyI cyF cyM t0 p m c cc nL s args own) (hP : HW D VM la (EMf cyI la) st H) {index : Nat} (hlink : Cond.fieldLink own index "MadeCallsModel" "faults" "I" ∈ xALL) (hdg : decode cc pc = .ok (.getfield index, 3)) (kk : W p l e R s m args below meth c H locs cells slots Q (F0 m (pc + 3) ls (.int (st.1 9 0 17) :: rest))) : W p l e R s m args below meth c H locs cells slots Q (F0 m pc ls (.ref (la 9 0) :: rest)) := w_get X hP (c0 := 9) (i0 := 0) rfl rfl rfl la_X9 17 (by decide) hlink rfl hdg kk
theorem pM_faults (X : xCx D VM la cyI cyF cyM t0 p m c cc nL s args own) (hP : HW D VM la (EMf cyI la) st H) (hS : va_S (xA VM la) s.heap H locs) {v : Int32} {index : Nat} (hlink : Cond.fieldLink own index "MadeCallsModel" "faults" "I" ∈ xALL) (hdg : decode cc pc = .ok (.putfield index, 3)) (kk : ∀ (H1 : Heap) (locs1 : List Loc), HW D VM la (EMf cyI la) (pI st 9 0 17 v) H1 → va_S (xA VM la) s.heap H1 locs1 → W p l e R s m args below meth c H1 locs1 cells slots Q (F0 m (pc + 3) ls rest)) : W p l e R s m args below meth c H locs cells slots Q (F0 m pc ls (.int v :: .ref (la 9 0) :: rest)) := w_putI X hP hS (c0 := 9) (i0 := 0) rfl rfl rfl la_X9 tyX9 tyX9_ok nmX9 17 (by decide) rfl (ty := .int) (by decide +kernel) rfl rfl (Nat.le_of_ble_eq_true rfl) rfl hlink hdg kk
theorem gM_caught (X : xCx D VM la cyI cyF cyM t0 p m c cc nL s args own) (hP : HW D VM la (EMf cyI la) st H) {index : Nat} (hlink : Cond.fieldLink own index "MadeCallsModel" "caught" "I" ∈ xALL) (hdg : decode cc pc = .ok (.getfield index, 3)) (kk : W p l e R s m args below meth c H locs cells slots Q (F0 m (pc + 3) ls (.int (st.1 9 0 18) :: rest))) : W p l e R s m args below meth c H locs cells slots Q (F0 m pc ls (.ref (la 9 0) :: rest)) := w_get X hP (c0 := 9) (i0 := 0) rfl rfl rfl la_X9 18 (by decide) hlink rfl hdg kk
theorem pM_caught (X : xCx D VM la cyI cyF cyM t0 p m c cc nL s args own) (hP : HW D VM la (EMf cyI la) st H) (hS : va_S (xA VM la) s.heap H locs) {v : Int32} {index : Nat} (hlink : Cond.fieldLink own index "MadeCallsModel" "caught" "I" ∈ xALL) (hdg : decode cc pc = .ok (.putfield index, 3)) (kk : ∀ (H1 : Heap) (locs1 : List Loc), HW D VM la (EMf cyI la) (pI st 9 0 18 v) H1 → va_S (xA VM la) s.heap H1 locs1 → W p l e R s m args below meth c H1 locs1 cells slots Q (F0 m (pc + 3) ls rest)) : W p l e R s m args below meth c H locs cells slots Q (F0 m pc ls (.int v :: .ref (la 9 0) :: rest)) := w_putI X hP hS (c0 := 9) (i0 := 0) rfl rfl rfl la_X9 tyX9 tyX9_ok nmX9 18 (by decide) rfl (ty := .int) (by decide +kernel) rfl rfl (Nat.le_of_ble_eq_true rfl) rfl hlink hdg kk
theorem gM_code (X : xCx D VM la cyI cyF cyM t0 p m c cc nL s args own) (hP : HW D VM la (EMf cyI la) st H) {index : Nat} (hlink : Cond.fieldLink own index "MadeCallsModel" "code" "I" ∈ xALL) (hdg : decode cc pc = .ok (.getfield index, 3)) (kk : W p l e R s m args below meth c H locs cells slots Q (F0 m (pc + 3) ls (.int (st.1 9 0 19) :: rest))) : W p l e R s m args below meth c H locs cells slots Q (F0 m pc ls (.ref (la 9 0) :: rest)) := w_get X hP (c0 := 9) (i0 := 0) rfl rfl rfl la_X9 19 (by decide) hlink rfl hdg kk
theorem pM_code (X : xCx D VM la cyI cyF cyM t0 p m c cc nL s args own) (hP : HW D VM la (EMf cyI la) st H) (hS : va_S (xA VM la) s.heap H locs) {v : Int32} {index : Nat} (hlink : Cond.fieldLink own index "MadeCallsModel" "code" "I" ∈ xALL) (hdg : decode cc pc = .ok (.putfield index, 3)) (kk : ∀ (H1 : Heap) (locs1 : List Loc), HW D VM la (EMf cyI la) (pI st 9 0 19 v) H1 → va_S (xA VM la) s.heap H1 locs1 → W p l e R s m args below meth c H1 locs1 cells slots Q (F0 m (pc + 3) ls rest)) : W p l e R s m args below meth c H locs cells slots Q (F0 m pc ls (.int v :: .ref (la 9 0) :: rest)) := w_putI X hP hS (c0 := 9) (i0 := 0) rfl rfl rfl la_X9 tyX9 tyX9_ok nmX9 19 (by decide) rfl (ty := .int) (by decide +kernel) rfl rfl (Nat.le_of_ble_eq_true rfl) rfl hlink hdg kk
theorem gM_codeFault (X : xCx D VM la cyI cyF cyM t0 p m c cc nL s args own) (hP : HW D VM la (EMf cyI la) st H) {index : Nat} (hlink : Cond.fieldLink own index "MadeCallsModel" "codeFault" "I" ∈ xALL) (hdg : decode cc pc = .ok (.getfield index, 3)) (kk : W p l e R s m args below meth c H locs cells slots Q (F0 m (pc + 3) ls (.int (st.1 9 0 20) :: rest))) : W p l e R s m args below meth c H locs cells slots Q (F0 m pc ls (.ref (la 9 0) :: rest)) := w_get X hP (c0 := 9) (i0 := 0) rfl rfl rfl la_X9 20 (by decide) hlink rfl hdg kk
theorem pM_codeFault (X : xCx D VM la cyI cyF cyM t0 p m c cc nL s args own) (hP : HW D VM la (EMf cyI la) st H) (hS : va_S (xA VM la) s.heap H locs) {v : Int32} {index : Nat} (hlink : Cond.fieldLink own index "MadeCallsModel" "codeFault" "I" ∈ xALL) (hdg : decode cc pc = .ok (.putfield index, 3)) (kk : ∀ (H1 : Heap) (locs1 : List Loc), HW D VM la (EMf cyI la) (pI st 9 0 20 v) H1 → va_S (xA VM la) s.heap H1 locs1 → W p l e R s m args below meth c H1 locs1 cells slots Q (F0 m (pc + 3) ls rest)) : W p l e R s m args below meth c H locs cells slots Q (F0 m pc ls (.int v :: .ref (la 9 0) :: rest)) := w_putI X hP hS (c0 := 9) (i0 := 0) rfl rfl rfl la_X9 tyX9 tyX9_ok nmX9 20 (by decide) rfl (ty := .int) (by decide +kernel) rfl rfl (Nat.le_of_ble_eq_true rfl) rfl hlink hdg kk
theorem gM_behind (X : xCx D VM la cyI cyF cyM t0 p m c cc nL s args own) (hP : HW D VM la (EMf cyI la) st H) {index : Nat} (hlink : Cond.fieldLink own index "MadeCallsModel" "behind" "I" ∈ xALL) (hdg : decode cc pc = .ok (.getfield index, 3)) (kk : W p l e R s m args below meth c H locs cells slots Q (F0 m (pc + 3) ls (.int (st.1 9 0 21) :: rest))) : W p l e R s m args below meth c H locs cells slots Q (F0 m pc ls (.ref (la 9 0) :: rest)) := w_get X hP (c0 := 9) (i0 := 0) rfl rfl rfl la_X9 21 (by decide) hlink rfl hdg kk
theorem pM_behind (X : xCx D VM la cyI cyF cyM t0 p m c cc nL s args own) (hP : HW D VM la (EMf cyI la) st H) (hS : va_S (xA VM la) s.heap H locs) {v : Int32} {index : Nat} (hlink : Cond.fieldLink own index "MadeCallsModel" "behind" "I" ∈ xALL) (hdg : decode cc pc = .ok (.putfield index, 3)) (kk : ∀ (H1 : Heap) (locs1 : List Loc), HW D VM la (EMf cyI la) (pI st 9 0 21 v) H1 → va_S (xA VM la) s.heap H1 locs1 → W p l e R s m args below meth c H1 locs1 cells slots Q (F0 m (pc + 3) ls rest)) : W p l e R s m args below meth c H locs cells slots Q (F0 m pc ls (.int v :: .ref (la 9 0) :: rest)) := w_putI X hP hS (c0 := 9) (i0 := 0) rfl rfl rfl la_X9 tyX9 tyX9_ok nmX9 21 (by decide) rfl (ty := .int) (by decide +kernel) rfl rfl (Nat.le_of_ble_eq_true rfl) rfl hlink hdg kk
theorem gM_operand (X : xCx D VM la cyI cyF cyM t0 p m c cc nL s args own) (hP : HW D VM la (EMf cyI la) st H) {index : Nat} (hlink : Cond.fieldLink own index "MadeCallsModel" "operand" "[I" ∈ xALL) (hdg : decode cc pc = .ok (.getfield index, 3)) (kk : W p l e R s m args below meth c H locs cells slots Q (F0 m (pc + 3) ls (.ref (la 30 22) :: rest))) : W p l e R s m args below meth c H locs cells slots Q (F0 m pc ls (.ref (la 9 0) :: rest)) := w_get X hP (c0 := 9) (i0 := 0) rfl rfl rfl la_X9 22 (by decide) hlink rfl hdg kk
theorem gM_operands (X : xCx D VM la cyI cyF cyM t0 p m c cc nL s args own) (hP : HW D VM la (EMf cyI la) st H) {index : Nat} (hlink : Cond.fieldLink own index "MadeCallsModel" "operands" "I" ∈ xALL) (hdg : decode cc pc = .ok (.getfield index, 3)) (kk : W p l e R s m args below meth c H locs cells slots Q (F0 m (pc + 3) ls (.int (st.1 9 0 23) :: rest))) : W p l e R s m args below meth c H locs cells slots Q (F0 m pc ls (.ref (la 9 0) :: rest)) := w_get X hP (c0 := 9) (i0 := 0) rfl rfl rfl la_X9 23 (by decide) hlink rfl hdg kk
theorem pM_operands (X : xCx D VM la cyI cyF cyM t0 p m c cc nL s args own) (hP : HW D VM la (EMf cyI la) st H) (hS : va_S (xA VM la) s.heap H locs) {v : Int32} {index : Nat} (hlink : Cond.fieldLink own index "MadeCallsModel" "operands" "I" ∈ xALL) (hdg : decode cc pc = .ok (.putfield index, 3)) (kk : ∀ (H1 : Heap) (locs1 : List Loc), HW D VM la (EMf cyI la) (pI st 9 0 23 v) H1 → va_S (xA VM la) s.heap H1 locs1 → W p l e R s m args below meth c H1 locs1 cells slots Q (F0 m (pc + 3) ls rest)) : W p l e R s m args below meth c H locs cells slots Q (F0 m pc ls (.int v :: .ref (la 9 0) :: rest)) := w_putI X hP hS (c0 := 9) (i0 := 0) rfl rfl rfl la_X9 tyX9 tyX9_ok nmX9 23 (by decide) rfl (ty := .int) (by decide +kernel) rfl rfl (Nat.le_of_ble_eq_true rfl) rfl hlink hdg kk
theorem gM_localMany (X : xCx D VM la cyI cyF cyM t0 p m c cc nL s args own) (hP : HW D VM la (EMf cyI la) st H) {index : Nat} (hlink : Cond.fieldLink own index "MadeCallsModel" "localMany" "I" ∈ xALL) (hdg : decode cc pc = .ok (.getfield index, 3)) (kk : W p l e R s m args below meth c H locs cells slots Q (F0 m (pc + 3) ls (.int (st.1 9 0 24) :: rest))) : W p l e R s m args below meth c H locs cells slots Q (F0 m pc ls (.ref (la 9 0) :: rest)) := w_get X hP (c0 := 9) (i0 := 0) rfl rfl rfl la_X9 24 (by decide) hlink rfl hdg kk
theorem pM_localMany (X : xCx D VM la cyI cyF cyM t0 p m c cc nL s args own) (hP : HW D VM la (EMf cyI la) st H) (hS : va_S (xA VM la) s.heap H locs) {v : Int32} {index : Nat} (hlink : Cond.fieldLink own index "MadeCallsModel" "localMany" "I" ∈ xALL) (hdg : decode cc pc = .ok (.putfield index, 3)) (kk : ∀ (H1 : Heap) (locs1 : List Loc), HW D VM la (EMf cyI la) (pI st 9 0 24 v) H1 → va_S (xA VM la) s.heap H1 locs1 → W p l e R s m args below meth c H1 locs1 cells slots Q (F0 m (pc + 3) ls rest)) : W p l e R s m args below meth c H locs cells slots Q (F0 m pc ls (.int v :: .ref (la 9 0) :: rest)) := w_putI X hP hS (c0 := 9) (i0 := 0) rfl rfl rfl la_X9 tyX9 tyX9_ok nmX9 24 (by decide) rfl (ty := .int) (by decide +kernel) rfl rfl (Nat.le_of_ble_eq_true rfl) rfl hlink hdg kk
theorem gM_offsets (X : xCx D VM la cyI cyF cyM t0 p m c cc nL s args own) (hP : HW D VM la (EMf cyI la) st H) {index : Nat} (hlink : Cond.fieldLink own index "MadeCallsModel" "offsets" "[I" ∈ xALL) (hdg : decode cc pc = .ok (.getfield index, 3)) (kk : W p l e R s m args below meth c H locs cells slots Q (F0 m (pc + 3) ls (.ref (la 30 25) :: rest))) : W p l e R s m args below meth c H locs cells slots Q (F0 m pc ls (.ref (la 9 0) :: rest)) := w_get X hP (c0 := 9) (i0 := 0) rfl rfl rfl la_X9 25 (by decide) hlink rfl hdg kk
theorem gM_targets (X : xCx D VM la cyI cyF cyM t0 p m c cc nL s args own) (hP : HW D VM la (EMf cyI la) st H) {index : Nat} (hlink : Cond.fieldLink own index "MadeCallsModel" "targets" "[I" ∈ xALL) (hdg : decode cc pc = .ok (.getfield index, 3)) (kk : W p l e R s m args below meth c H locs cells slots Q (F0 m (pc + 3) ls (.ref (la 30 26) :: rest))) : W p l e R s m args below meth c H locs cells slots Q (F0 m pc ls (.ref (la 9 0) :: rest)) := w_get X hP (c0 := 9) (i0 := 0) rfl rfl rfl la_X9 26 (by decide) hlink rfl hdg kk
theorem gM_many (X : xCx D VM la cyI cyF cyM t0 p m c cc nL s args own) (hP : HW D VM la (EMf cyI la) st H) {index : Nat} (hlink : Cond.fieldLink own index "MadeCallsModel" "many" "I" ∈ xALL) (hdg : decode cc pc = .ok (.getfield index, 3)) (kk : W p l e R s m args below meth c H locs cells slots Q (F0 m (pc + 3) ls (.int (st.1 9 0 27) :: rest))) : W p l e R s m args below meth c H locs cells slots Q (F0 m pc ls (.ref (la 9 0) :: rest)) := w_get X hP (c0 := 9) (i0 := 0) rfl rfl rfl la_X9 27 (by decide) hlink rfl hdg kk
theorem pM_many (X : xCx D VM la cyI cyF cyM t0 p m c cc nL s args own) (hP : HW D VM la (EMf cyI la) st H) (hS : va_S (xA VM la) s.heap H locs) {v : Int32} {index : Nat} (hlink : Cond.fieldLink own index "MadeCallsModel" "many" "I" ∈ xALL) (hdg : decode cc pc = .ok (.putfield index, 3)) (kk : ∀ (H1 : Heap) (locs1 : List Loc), HW D VM la (EMf cyI la) (pI st 9 0 27 v) H1 → va_S (xA VM la) s.heap H1 locs1 → W p l e R s m args below meth c H1 locs1 cells slots Q (F0 m (pc + 3) ls rest)) : W p l e R s m args below meth c H locs cells slots Q (F0 m pc ls (.int v :: .ref (la 9 0) :: rest)) := w_putI X hP hS (c0 := 9) (i0 := 0) rfl rfl rfl la_X9 tyX9 tyX9_ok nmX9 27 (by decide) rfl (ty := .int) (by decide +kernel) rfl rfl (Nat.le_of_ble_eq_true rfl) rfl hlink hdg kk
theorem gM_steps (X : xCx D VM la cyI cyF cyM t0 p m c cc nL s args own) (hP : HW D VM la (EMf cyI la) st H) {index : Nat} (hlink : Cond.fieldLink own index "MadeCallsModel" "steps" "I" ∈ xALL) (hdg : decode cc pc = .ok (.getfield index, 3)) (kk : W p l e R s m args below meth c H locs cells slots Q (F0 m (pc + 3) ls (.int (st.1 9 0 28) :: rest))) : W p l e R s m args below meth c H locs cells slots Q (F0 m pc ls (.ref (la 9 0) :: rest)) := w_get X hP (c0 := 9) (i0 := 0) rfl rfl rfl la_X9 28 (by decide) hlink rfl hdg kk
theorem pM_steps (X : xCx D VM la cyI cyF cyM t0 p m c cc nL s args own) (hP : HW D VM la (EMf cyI la) st H) (hS : va_S (xA VM la) s.heap H locs) {v : Int32} {index : Nat} (hlink : Cond.fieldLink own index "MadeCallsModel" "steps" "I" ∈ xALL) (hdg : decode cc pc = .ok (.putfield index, 3)) (kk : ∀ (H1 : Heap) (locs1 : List Loc), HW D VM la (EMf cyI la) (pI st 9 0 28 v) H1 → va_S (xA VM la) s.heap H1 locs1 → W p l e R s m args below meth c H1 locs1 cells slots Q (F0 m (pc + 3) ls rest)) : W p l e R s m args below meth c H locs cells slots Q (F0 m pc ls (.int v :: .ref (la 9 0) :: rest)) := w_putI X hP hS (c0 := 9) (i0 := 0) rfl rfl rfl la_X9 tyX9 tyX9_ok nmX9 28 (by decide) rfl (ty := .int) (by decide +kernel) rfl rfl (Nat.le_of_ble_eq_true rfl) rfl hlink hdg kk
theorem gM_depth (X : xCx D VM la cyI cyF cyM t0 p m c cc nL s args own) (hP : HW D VM la (EMf cyI la) st H) {index : Nat} (hlink : Cond.fieldLink own index "MadeCallsModel" "depth" "I" ∈ xALL) (hdg : decode cc pc = .ok (.getfield index, 3)) (kk : W p l e R s m args below meth c H locs cells slots Q (F0 m (pc + 3) ls (.int (st.1 9 0 29) :: rest))) : W p l e R s m args below meth c H locs cells slots Q (F0 m pc ls (.ref (la 9 0) :: rest)) := w_get X hP (c0 := 9) (i0 := 0) rfl rfl rfl la_X9 29 (by decide) hlink rfl hdg kk
theorem pM_depth (X : xCx D VM la cyI cyF cyM t0 p m c cc nL s args own) (hP : HW D VM la (EMf cyI la) st H) (hS : va_S (xA VM la) s.heap H locs) {v : Int32} {index : Nat} (hlink : Cond.fieldLink own index "MadeCallsModel" "depth" "I" ∈ xALL) (hdg : decode cc pc = .ok (.putfield index, 3)) (kk : ∀ (H1 : Heap) (locs1 : List Loc), HW D VM la (EMf cyI la) (pI st 9 0 29 v) H1 → va_S (xA VM la) s.heap H1 locs1 → W p l e R s m args below meth c H1 locs1 cells slots Q (F0 m (pc + 3) ls rest)) : W p l e R s m args below meth c H locs cells slots Q (F0 m pc ls (.int v :: .ref (la 9 0) :: rest)) := w_putI X hP hS (c0 := 9) (i0 := 0) rfl rfl rfl la_X9 tyX9 tyX9_ok nmX9 29 (by decide) rfl (ty := .int) (by decide +kernel) rfl rfl (Nat.le_of_ble_eq_true rfl) rfl hlink hdg kk
theorem gM_byMade (X : xCx D VM la cyI cyF cyM t0 p m c cc nL s args own) (hP : HW D VM la (EMf cyI la) st H) {index : Nat} (hlink : Cond.fieldLink own index "MadeCallsModel" "byMade" "Z" ∈ xALL) (hdg : decode cc pc = .ok (.getfield index, 3)) (kk : W p l e R s m args below meth c H locs cells slots Q (F0 m (pc + 3) ls (.int (st.1 9 0 30) :: rest))) : W p l e R s m args below meth c H locs cells slots Q (F0 m pc ls (.ref (la 9 0) :: rest)) := w_get X hP (c0 := 9) (i0 := 0) rfl rfl rfl la_X9 30 (by decide) hlink rfl hdg kk
theorem pM_byMade (X : xCx D VM la cyI cyF cyM t0 p m c cc nL s args own) (hP : HW D VM la (EMf cyI la) st H) (hS : va_S (xA VM la) s.heap H locs) {v : Int32} (hz : v = 0 ∨ v = 1) {index : Nat} (hlink : Cond.fieldLink own index "MadeCallsModel" "byMade" "Z" ∈ xALL) (hdg : decode cc pc = .ok (.putfield index, 3)) (kk : ∀ (H1 : Heap) (locs1 : List Loc), HW D VM la (EMf cyI la) (pI st 9 0 30 v) H1 → va_S (xA VM la) s.heap H1 locs1 → W p l e R s m args below meth c H1 locs1 cells slots Q (F0 m (pc + 3) ls rest)) : W p l e R s m args below meth c H locs cells slots Q (F0 m pc ls (.int v :: .ref (la 9 0) :: rest)) := w_putI X hP hS (c0 := 9) (i0 := 0) rfl rfl rfl la_X9 tyX9 tyX9_ok nmX9 30 (by decide) rfl (ty := .boolean) (by decide +kernel) (by rcases hz with rfl | rfl <;> rfl) (by rcases hz with rfl | rfl <;> rfl) (Nat.le_of_ble_eq_true rfl) rfl hlink hdg kk
theorem gM_address (X : xCx D VM la cyI cyF cyM t0 p m c cc nL s args own) (hP : HW D VM la (EMf cyI la) st H) {index : Nat} (hlink : Cond.fieldLink own index "MadeCallsModel" "address" "[I" ∈ xALL) (hdg : decode cc pc = .ok (.getfield index, 3)) (kk : W p l e R s m args below meth c H locs cells slots Q (F0 m (pc + 3) ls (.ref (la 30 31) :: rest))) : W p l e R s m args below meth c H locs cells slots Q (F0 m pc ls (.ref (la 9 0) :: rest)) := w_get X hP (c0 := 9) (i0 := 0) rfl rfl rfl la_X9 31 (by decide) hlink rfl hdg kk
theorem gM_at (X : xCx D VM la cyI cyF cyM t0 p m c cc nL s args own) (hP : HW D VM la (EMf cyI la) st H) {index : Nat} (hlink : Cond.fieldLink own index "MadeCallsModel" "at" "[I" ∈ xALL) (hdg : decode cc pc = .ok (.getfield index, 3)) (kk : W p l e R s m args below meth c H locs cells slots Q (F0 m (pc + 3) ls (.ref (la 30 32) :: rest))) : W p l e R s m args below meth c H locs cells slots Q (F0 m pc ls (.ref (la 9 0) :: rest)) := w_get X hP (c0 := 9) (i0 := 0) rfl rfl rfl la_X9 32 (by decide) hlink rfl hdg kk
theorem gM_locals (X : xCx D VM la cyI cyF cyM t0 p m c cc nL s args own) (hP : HW D VM la (EMf cyI la) st H) {index : Nat} (hlink : Cond.fieldLink own index "MadeCallsModel" "locals" "[I" ∈ xALL) (hdg : decode cc pc = .ok (.getfield index, 3)) (kk : W p l e R s m args below meth c H locs cells slots Q (F0 m (pc + 3) ls (.ref (la 30 33) :: rest))) : W p l e R s m args below meth c H locs cells slots Q (F0 m pc ls (.ref (la 9 0) :: rest)) := w_get X hP (c0 := 9) (i0 := 0) rfl rfl rfl la_X9 33 (by decide) hlink rfl hdg kk
theorem gM_catches (X : xCx D VM la cyI cyF cyM t0 p m c cc nL s args own) (hP : HW D VM la (EMf cyI la) st H) {index : Nat} (hlink : Cond.fieldLink own index "MadeCallsModel" "catches" "[I" ∈ xALL) (hdg : decode cc pc = .ok (.getfield index, 3)) (kk : W p l e R s m args below meth c H locs cells slots Q (F0 m (pc + 3) ls (.ref (la 30 34) :: rest))) : W p l e R s m args below meth c H locs cells slots Q (F0 m pc ls (.ref (la 9 0) :: rest)) := w_get X hP (c0 := 9) (i0 := 0) rfl rfl rfl la_X9 34 (by decide) hlink rfl hdg kk
theorem gM_cell (X : xCx D VM la cyI cyF cyM t0 p m c cc nL s args own) (hP : HW D VM la (EMf cyI la) st H) {index : Nat} (hlink : Cond.fieldLink own index "MadeCallsModel" "cell" "[I" ∈ xALL) (hdg : decode cc pc = .ok (.getfield index, 3)) (kk : W p l e R s m args below meth c H locs cells slots Q (F0 m (pc + 3) ls (.ref (la 30 35) :: rest))) : W p l e R s m args below meth c H locs cells slots Q (F0 m pc ls (.ref (la 9 0) :: rest)) := w_get X hP (c0 := 9) (i0 := 0) rfl rfl rfl la_X9 35 (by decide) hlink rfl hdg kk
theorem gM_number (X : xCx D VM la cyI cyF cyM t0 p m c cc nL s args own) (hP : HW D VM la (EMf cyI la) st H) {index : Nat} (hlink : Cond.fieldLink own index "MadeCallsModel" "number" "[I" ∈ xALL) (hdg : decode cc pc = .ok (.getfield index, 3)) (kk : W p l e R s m args below meth c H locs cells slots Q (F0 m (pc + 3) ls (.ref (la 30 36) :: rest))) : W p l e R s m args below meth c H locs cells slots Q (F0 m pc ls (.ref (la 9 0) :: rest)) := w_get X hP (c0 := 9) (i0 := 0) rfl rfl rfl la_X9 36 (by decide) hlink rfl hdg kk
theorem gM_local (X : xCx D VM la cyI cyF cyM t0 p m c cc nL s args own) (hP : HW D VM la (EMf cyI la) st H) {index : Nat} (hlink : Cond.fieldLink own index "MadeCallsModel" "local" "[I" ∈ xALL) (hdg : decode cc pc = .ok (.getfield index, 3)) (kk : W p l e R s m args below meth c H locs cells slots Q (F0 m (pc + 3) ls (.ref (la 30 37) :: rest))) : W p l e R s m args below meth c H locs cells slots Q (F0 m pc ls (.ref (la 9 0) :: rest)) := w_get X hP (c0 := 9) (i0 := 0) rfl rfl rfl la_X9 37 (by decide) hlink rfl hdg kk
theorem gM_given (X : xCx D VM la cyI cyF cyM t0 p m c cc nL s args own) (hP : HW D VM la (EMf cyI la) st H) {index : Nat} (hlink : Cond.fieldLink own index "MadeCallsModel" "given" "[I" ∈ xALL) (hdg : decode cc pc = .ok (.getfield index, 3)) (kk : W p l e R s m args below meth c H locs cells slots Q (F0 m (pc + 3) ls (.ref (la 30 38) :: rest))) : W p l e R s m args below meth c H locs cells slots Q (F0 m pc ls (.ref (la 9 0) :: rest)) := w_get X hP (c0 := 9) (i0 := 0) rfl rfl rfl la_X9 38 (by decide) hlink rfl hdg kk
theorem gM_givenMany (X : xCx D VM la cyI cyF cyM t0 p m c cc nL s args own) (hP : HW D VM la (EMf cyI la) st H) {index : Nat} (hlink : Cond.fieldLink own index "MadeCallsModel" "givenMany" "I" ∈ xALL) (hdg : decode cc pc = .ok (.getfield index, 3)) (kk : W p l e R s m args below meth c H locs cells slots Q (F0 m (pc + 3) ls (.int (st.1 9 0 39) :: rest))) : W p l e R s m args below meth c H locs cells slots Q (F0 m pc ls (.ref (la 9 0) :: rest)) := w_get X hP (c0 := 9) (i0 := 0) rfl rfl rfl la_X9 39 (by decide) hlink rfl hdg kk
theorem pM_givenMany (X : xCx D VM la cyI cyF cyM t0 p m c cc nL s args own) (hP : HW D VM la (EMf cyI la) st H) (hS : va_S (xA VM la) s.heap H locs) {v : Int32} {index : Nat} (hlink : Cond.fieldLink own index "MadeCallsModel" "givenMany" "I" ∈ xALL) (hdg : decode cc pc = .ok (.putfield index, 3)) (kk : ∀ (H1 : Heap) (locs1 : List Loc), HW D VM la (EMf cyI la) (pI st 9 0 39 v) H1 → va_S (xA VM la) s.heap H1 locs1 → W p l e R s m args below meth c H1 locs1 cells slots Q (F0 m (pc + 3) ls rest)) : W p l e R s m args below meth c H locs cells slots Q (F0 m pc ls (.int v :: .ref (la 9 0) :: rest)) := w_putI X hP hS (c0 := 9) (i0 := 0) rfl rfl rfl la_X9 tyX9 tyX9_ok nmX9 39 (by decide) rfl (ty := .int) (by decide +kernel) rfl rfl (Nat.le_of_ble_eq_true rfl) rfl hlink hdg kk
theorem gM_fault (X : xCx D VM la cyI cyF cyM t0 p m c cc nL s args own) (hP : HW D VM la (EMf cyI la) st H) {index : Nat} (hlink : Cond.fieldLink own index "MadeCallsModel" "fault" "I" ∈ xALL) (hdg : decode cc pc = .ok (.getfield index, 3)) (kk : W p l e R s m args below meth c H locs cells slots Q (F0 m (pc + 3) ls (.int (st.1 9 0 40) :: rest))) : W p l e R s m args below meth c H locs cells slots Q (F0 m pc ls (.ref (la 9 0) :: rest)) := w_get X hP (c0 := 9) (i0 := 0) rfl rfl rfl la_X9 40 (by decide) hlink rfl hdg kk
theorem pM_fault (X : xCx D VM la cyI cyF cyM t0 p m c cc nL s args own) (hP : HW D VM la (EMf cyI la) st H) (hS : va_S (xA VM la) s.heap H locs) {v : Int32} {index : Nat} (hlink : Cond.fieldLink own index "MadeCallsModel" "fault" "I" ∈ xALL) (hdg : decode cc pc = .ok (.putfield index, 3)) (kk : ∀ (H1 : Heap) (locs1 : List Loc), HW D VM la (EMf cyI la) (pI st 9 0 40 v) H1 → va_S (xA VM la) s.heap H1 locs1 → W p l e R s m args below meth c H1 locs1 cells slots Q (F0 m (pc + 3) ls rest)) : W p l e R s m args below meth c H locs cells slots Q (F0 m pc ls (.int v :: .ref (la 9 0) :: rest)) := w_putI X hP hS (c0 := 9) (i0 := 0) rfl rfl rfl la_X9 tyX9 tyX9_ok nmX9 40 (by decide) rfl (ty := .int) (by decide +kernel) rfl rfl (Nat.le_of_ble_eq_true rfl) rfl hlink hdg kk
theorem gM_faultAddress (X : xCx D VM la cyI cyF cyM t0 p m c cc nL s args own) (hP : HW D VM la (EMf cyI la) st H) {index : Nat} (hlink : Cond.fieldLink own index "MadeCallsModel" "faultAddress" "I" ∈ xALL) (hdg : decode cc pc = .ok (.getfield index, 3)) (kk : W p l e R s m args below meth c H locs cells slots Q (F0 m (pc + 3) ls (.int (st.1 9 0 41) :: rest))) : W p l e R s m args below meth c H locs cells slots Q (F0 m pc ls (.ref (la 9 0) :: rest)) := w_get X hP (c0 := 9) (i0 := 0) rfl rfl rfl la_X9 41 (by decide) hlink rfl hdg kk
theorem pM_faultAddress (X : xCx D VM la cyI cyF cyM t0 p m c cc nL s args own) (hP : HW D VM la (EMf cyI la) st H) (hS : va_S (xA VM la) s.heap H locs) {v : Int32} {index : Nat} (hlink : Cond.fieldLink own index "MadeCallsModel" "faultAddress" "I" ∈ xALL) (hdg : decode cc pc = .ok (.putfield index, 3)) (kk : ∀ (H1 : Heap) (locs1 : List Loc), HW D VM la (EMf cyI la) (pI st 9 0 41 v) H1 → va_S (xA VM la) s.heap H1 locs1 → W p l e R s m args below meth c H1 locs1 cells slots Q (F0 m (pc + 3) ls rest)) : W p l e R s m args below meth c H locs cells slots Q (F0 m pc ls (.int v :: .ref (la 9 0) :: rest)) := w_putI X hP hS (c0 := 9) (i0 := 0) rfl rfl rfl la_X9 tyX9 tyX9_ok nmX9 41 (by decide) rfl (ty := .int) (by decide +kernel) rfl rfl (Nat.le_of_ble_eq_true rfl) rfl hlink hdg kk
theorem gM_faultOffset (X : xCx D VM la cyI cyF cyM t0 p m c cc nL s args own) (hP : HW D VM la (EMf cyI la) st H) {index : Nat} (hlink : Cond.fieldLink own index "MadeCallsModel" "faultOffset" "I" ∈ xALL) (hdg : decode cc pc = .ok (.getfield index, 3)) (kk : W p l e R s m args below meth c H locs cells slots Q (F0 m (pc + 3) ls (.int (st.1 9 0 42) :: rest))) : W p l e R s m args below meth c H locs cells slots Q (F0 m pc ls (.ref (la 9 0) :: rest)) := w_get X hP (c0 := 9) (i0 := 0) rfl rfl rfl la_X9 42 (by decide) hlink rfl hdg kk
theorem pM_faultOffset (X : xCx D VM la cyI cyF cyM t0 p m c cc nL s args own) (hP : HW D VM la (EMf cyI la) st H) (hS : va_S (xA VM la) s.heap H locs) {v : Int32} {index : Nat} (hlink : Cond.fieldLink own index "MadeCallsModel" "faultOffset" "I" ∈ xALL) (hdg : decode cc pc = .ok (.putfield index, 3)) (kk : ∀ (H1 : Heap) (locs1 : List Loc), HW D VM la (EMf cyI la) (pI st 9 0 42 v) H1 → va_S (xA VM la) s.heap H1 locs1 → W p l e R s m args below meth c H1 locs1 cells slots Q (F0 m (pc + 3) ls rest)) : W p l e R s m args below meth c H locs cells slots Q (F0 m pc ls (.int v :: .ref (la 9 0) :: rest)) := w_putI X hP hS (c0 := 9) (i0 := 0) rfl rfl rfl la_X9 tyX9 tyX9_ok nmX9 42 (by decide) rfl (ty := .int) (by decide +kernel) rfl rfl (Nat.le_of_ble_eq_true rfl) rfl hlink hdg kk
theorem gM_faultNumber (X : xCx D VM la cyI cyF cyM t0 p m c cc nL s args own) (hP : HW D VM la (EMf cyI la) st H) {index : Nat} (hlink : Cond.fieldLink own index "MadeCallsModel" "faultNumber" "I" ∈ xALL) (hdg : decode cc pc = .ok (.getfield index, 3)) (kk : W p l e R s m args below meth c H locs cells slots Q (F0 m (pc + 3) ls (.int (st.1 9 0 43) :: rest))) : W p l e R s m args below meth c H locs cells slots Q (F0 m pc ls (.ref (la 9 0) :: rest)) := w_get X hP (c0 := 9) (i0 := 0) rfl rfl rfl la_X9 43 (by decide) hlink rfl hdg kk
theorem pM_faultNumber (X : xCx D VM la cyI cyF cyM t0 p m c cc nL s args own) (hP : HW D VM la (EMf cyI la) st H) (hS : va_S (xA VM la) s.heap H locs) {v : Int32} {index : Nat} (hlink : Cond.fieldLink own index "MadeCallsModel" "faultNumber" "I" ∈ xALL) (hdg : decode cc pc = .ok (.putfield index, 3)) (kk : ∀ (H1 : Heap) (locs1 : List Loc), HW D VM la (EMf cyI la) (pI st 9 0 43 v) H1 → va_S (xA VM la) s.heap H1 locs1 → W p l e R s m args below meth c H1 locs1 cells slots Q (F0 m (pc + 3) ls rest)) : W p l e R s m args below meth c H locs cells slots Q (F0 m pc ls (.int v :: .ref (la 9 0) :: rest)) := w_putI X hP hS (c0 := 9) (i0 := 0) rfl rfl rfl la_X9 tyX9 tyX9_ok nmX9 43 (by decide) rfl (ty := .int) (by decide +kernel) rfl rfl (Nat.le_of_ble_eq_true rfl) rfl hlink hdg kk
theorem gM_result (X : xCx D VM la cyI cyF cyM t0 p m c cc nL s args own) (hP : HW D VM la (EMf cyI la) st H) {index : Nat} (hlink : Cond.fieldLink own index "MadeCallsModel" "result" "I" ∈ xALL) (hdg : decode cc pc = .ok (.getfield index, 3)) (kk : W p l e R s m args below meth c H locs cells slots Q (F0 m (pc + 3) ls (.int (st.1 9 0 44) :: rest))) : W p l e R s m args below meth c H locs cells slots Q (F0 m pc ls (.ref (la 9 0) :: rest)) := w_get X hP (c0 := 9) (i0 := 0) rfl rfl rfl la_X9 44 (by decide) hlink rfl hdg kk
theorem pM_result (X : xCx D VM la cyI cyF cyM t0 p m c cc nL s args own) (hP : HW D VM la (EMf cyI la) st H) (hS : va_S (xA VM la) s.heap H locs) {v : Int32} {index : Nat} (hlink : Cond.fieldLink own index "MadeCallsModel" "result" "I" ∈ xALL) (hdg : decode cc pc = .ok (.putfield index, 3)) (kk : ∀ (H1 : Heap) (locs1 : List Loc), HW D VM la (EMf cyI la) (pI st 9 0 44 v) H1 → va_S (xA VM la) s.heap H1 locs1 → W p l e R s m args below meth c H1 locs1 cells slots Q (F0 m (pc + 3) ls rest)) : W p l e R s m args below meth c H locs cells slots Q (F0 m pc ls (.int v :: .ref (la 9 0) :: rest)) := w_putI X hP hS (c0 := 9) (i0 := 0) rfl rfl rfl la_X9 tyX9 tyX9_ok nmX9 44 (by decide) rfl (ty := .int) (by decide +kernel) rfl rfl (Nat.le_of_ble_eq_true rfl) rfl hlink hdg kk
theorem gM_here (X : xCx D VM la cyI cyF cyM t0 p m c cc nL s args own) (hP : HW D VM la (EMf cyI la) st H) {index : Nat} (hlink : Cond.fieldLink own index "MadeCallsModel" "here" "I" ∈ xALL) (hdg : decode cc pc = .ok (.getfield index, 3)) (kk : W p l e R s m args below meth c H locs cells slots Q (F0 m (pc + 3) ls (.int (st.1 9 0 45) :: rest))) : W p l e R s m args below meth c H locs cells slots Q (F0 m pc ls (.ref (la 9 0) :: rest)) := w_get X hP (c0 := 9) (i0 := 0) rfl rfl rfl la_X9 45 (by decide) hlink rfl hdg kk
theorem pM_here (X : xCx D VM la cyI cyF cyM t0 p m c cc nL s args own) (hP : HW D VM la (EMf cyI la) st H) (hS : va_S (xA VM la) s.heap H locs) {v : Int32} {index : Nat} (hlink : Cond.fieldLink own index "MadeCallsModel" "here" "I" ∈ xALL) (hdg : decode cc pc = .ok (.putfield index, 3)) (kk : ∀ (H1 : Heap) (locs1 : List Loc), HW D VM la (EMf cyI la) (pI st 9 0 45 v) H1 → va_S (xA VM la) s.heap H1 locs1 → W p l e R s m args below meth c H1 locs1 cells slots Q (F0 m (pc + 3) ls rest)) : W p l e R s m args below meth c H locs cells slots Q (F0 m pc ls (.int v :: .ref (la 9 0) :: rest)) := w_putI X hP hS (c0 := 9) (i0 := 0) rfl rfl rfl la_X9 tyX9 tyX9_ok nmX9 45 (by decide) rfl (ty := .int) (by decide +kernel) rfl rfl (Nat.le_of_ble_eq_true rfl) rfl hlink hdg kk
theorem gM_hereOffset (X : xCx D VM la cyI cyF cyM t0 p m c cc nL s args own) (hP : HW D VM la (EMf cyI la) st H) {index : Nat} (hlink : Cond.fieldLink own index "MadeCallsModel" "hereOffset" "I" ∈ xALL) (hdg : decode cc pc = .ok (.getfield index, 3)) (kk : W p l e R s m args below meth c H locs cells slots Q (F0 m (pc + 3) ls (.int (st.1 9 0 46) :: rest))) : W p l e R s m args below meth c H locs cells slots Q (F0 m pc ls (.ref (la 9 0) :: rest)) := w_get X hP (c0 := 9) (i0 := 0) rfl rfl rfl la_X9 46 (by decide) hlink rfl hdg kk
theorem pM_hereOffset (X : xCx D VM la cyI cyF cyM t0 p m c cc nL s args own) (hP : HW D VM la (EMf cyI la) st H) (hS : va_S (xA VM la) s.heap H locs) {v : Int32} {index : Nat} (hlink : Cond.fieldLink own index "MadeCallsModel" "hereOffset" "I" ∈ xALL) (hdg : decode cc pc = .ok (.putfield index, 3)) (kk : ∀ (H1 : Heap) (locs1 : List Loc), HW D VM la (EMf cyI la) (pI st 9 0 46 v) H1 → va_S (xA VM la) s.heap H1 locs1 → W p l e R s m args below meth c H1 locs1 cells slots Q (F0 m (pc + 3) ls rest)) : W p l e R s m args below meth c H locs cells slots Q (F0 m pc ls (.int v :: .ref (la 9 0) :: rest)) := w_putI X hP hS (c0 := 9) (i0 := 0) rfl rfl rfl la_X9 tyX9 tyX9_ok nmX9 46 (by decide) rfl (ty := .int) (by decide +kernel) rfl rfl (Nat.le_of_ble_eq_true rfl) rfl hlink hdg kk
end XM
end
section
theorem zz_last : True := trivial
end
